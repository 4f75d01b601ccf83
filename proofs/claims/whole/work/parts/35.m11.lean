set_option maxHeartbeats 40000000 in
set_option maxRecDepth 100000 in
/-- bound(0) -/
theorem c_M_bound0 (l : Launch) (D : va_G) (cI cB cJ : ClassId) (qQ : Nat) (hm : Nat) (a : Nat) (b : Nat) (qa : Nat) (qu : Nat) (qb : Nat) (qh : Nat) (qm : Nat) (qk : Nat) (qp : Nat) (n : Nat) (K : Nat → Int32) (P : Nat → Int32) (fu : Bool) (fa : Bool) (hn : n ≤ 3000) : ct l D cl [(cI, .int), (cB, .byte), (cJ, .long)] (amb qQ) y_M_bound w_M_bound 1 22 (0) (0) [.ref hm, .int 0] [(hm, .inr (1, [.ref a, .ref b, .ref qa, .ref qu, .ref qb, .ref qh, .ref qm])), (a, .inr (6, [.ref qk, .ref qp, .int (nI n), .int (bz fu), .int (bz fa)])), (qk, .inl (cB, 3000, .inl K)), (qp, .inl (cI, 18000, .inl P))] (fun _ : Unit => True) (fun _ : Unit => some (.int (rBound (lst n K P) 0))) (fun _ : Unit => [(hm, .inr (1, [.ref a, .ref b, .ref qa, .ref qu, .ref qb, .ref qh, .ref qm])), (a, .inr (6, [.ref qk, .ref qp, .int (nI n), .int (bz fu), .int (bz fa)])), (qk, .inl (cB, 3000, .inl K)), (qp, .inl (cI, 18000, .inl P))]) := by
  refine ct_ofW (cc := b_M_bound) (maxL := 6) (ret := (some .int)) (by decide) rfl (Nat.le_of_ble_eq_true rfl) ?_
  intro p e R s m args below meth c A Q ls hx hb hr hml hts hown hlocks hname hRf hRc hRs hRl hQ hK hP hD hS hA hM hl
  have hl : lv_has ls 6 [(0, .ref hm), (1, .int 0)] := hl
  refine lv_aload_n hx hb d_M_bound_0 rfl (lv_at hl 0 rfl) ?_
  refine va_get (D := D) (ci := 1) (v := .ref a) (C := R_M) (T := T_M) (N := 7) hx hb hts (ui_M _) hown hK hP 0 rfl rfl 0 (by decide) (hts _ (gwc gw_509)) (fun _ h9 => h9) rfl d_M_bound_1 ?_
  refine va_getN (D := D) (ci := 6) (v := .int (nI n)) (C := R_MPath) (T := T_MPath) (N := 5) hx hb hts (ui_MPath _) hown hK hP 1 rfl rfl 2 (by decide) ((amb_nw_10 hM).use rfl) (fun _ h9 => h9) rfl d_M_bound_4 ?_
  refine bz_eq (a1 := n) (tgt := 19) hx hb (by omega) d_M_bound_7 (by decide) (fun c_1 => ?_) (fun c_1 => ?_)
  · skip
    refine lv_iconst (v := 0) hx hb d_M_bound_19 (by decide) ?_
    exact ct_reti hQ hx hb hr hlocks hP hD hS () [(hm, .inr (1, [.ref a, .ref b, .ref qa, .ref qu, .ref qb, .ref qh, .ref qm])), (a, .inr (6, [.ref qk, .ref qp, .int (nI n), .int (bz fu), .int (bz fa)])), (qk, .inl (cB, 3000, .inl K)), (qp, .inl (cI, 18000, .inl P))] [0, 1, 2, 3] (by rw [rBound, if_pos (Or.inl (by rw [lst_len]; exact c_1))]) (trivial) (rfl) rfl rfl (by omega) (by omega) d_M_bound_20
  · skip
    refine lv_iload_n hx hb d_M_bound_10 rfl (lv_at hl 1 rfl) ?_
    refine lv_if_lt (tgt := 19) hx hb d_M_bound_11 (by decide) (fun c_2 => ?_) (fun c_2 => ?_)
    · exact absurd c_2 (by decide)
    refine lv_iload_n hx hb d_M_bound_14 rfl (lv_at hl 1 rfl) ?_
    refine lv_iconst (v := 3) hx hb d_M_bound_15 (by decide) ?_
    refine bn_le (a1 := 0) (b1 := 3) (tgt := 21) hx hb (by omega) (by omega) d_M_bound_16 (by decide) (fun c_3 => ?_) (fun c_3 => ?_)
    rotate_left
    · exact absurd c_3 (by decide)
    refine lv_aload_n hx hb d_M_bound_21 rfl (lv_at hl 0 rfl) ?_
    refine va_get (D := D) (ci := 1) (v := .ref a) (C := R_M) (T := T_M) (N := 7) hx hb hts (ui_M _) hown hK hP 0 rfl rfl 0 (by decide) (hts _ (gwc gw_509)) (fun _ h9 => h9) rfl d_M_bound_22 ?_
    refine lv_iconst (v := 0) hx hb d_M_bound_25 (by decide) ?_
    refine lv_iload_n hx hb d_M_bound_26 rfl (lv_at hl 1 rfl) ?_
    refine lv_iconst (v := 2) hx hb d_M_bound_27 (by decide) ?_
    refine lv_irem hx hb d_M_bound_28 (by decide) ?_
    refine tp_i (0) (by decide) ?_
    refine ct_callV (ci := 6) (q0 := 1) (As := [.int 0, .int 0]) (rest := []) (wr := [(hm, .inr (1, [.ref a, .ref b, .ref qa, .ref qu, .ref qb, .ref qh, .ref qm]))]) (n := 2) (c_MPath_get l D cI cB cJ qQ  a qk qp n K P fu fa 0 0 (by omega) (by decide)) hx hb hml hown hts (amb_ok qQ) hK hP hD hS hA hM (gi_V gw_540 gw_541 gw_542 gw_34 gw_543) rfl (by decide +kernel) ⟨by omega, by omega⟩ [1, 2, 3] [0] rfl rfl rfl rfl (by decide) rfl rfl rfl hl.1 rfl (Nat.le_of_ble_eq_true rfl) d_M_bound_29 ⟨by omega, by omega⟩ (fun u_4 H locs hok hP hD hS => ?_)
    have hP : va_P D cl [(hm, .inr (1, [.ref a, .ref b, .ref qa, .ref qu, .ref qb, .ref qh, .ref qm])), (a, .inr (6, [.ref qk, .ref qp, .int (nI n), .int (bz fu), .int (bz fa)])), (qk, .inl (cB, 3000, .inl K)), (qp, .inl (cI, 18000, .inl P))] H := hP
    have hD : va_D A [(hm, .inr (1, [.ref a, .ref b, .ref qa, .ref qu, .ref qb, .ref qh, .ref qm])), (a, .inr (6, [.ref qk, .ref qp, .int (nI n), .int (bz fu), .int (bz fa)])), (qk, .inl (cB, 3000, .inl K)), (qp, .inl (cI, 18000, .inl P))] := hD
    refine W.eq (g2 := F0 m 32 ls [.int (P (6 * 0 + 0))]) rfl ?_
    refine lv_istore_n (lv' := [(2, .int (P (6 * 0 + 0))), (0, .ref hm), (1, .int 0)]) hx hb d_M_bound_32 rfl hl (by decide) rfl (fun ls hl => ?_)
    refine lv_iconst (v := 0) hx hb d_M_bound_33 (by decide) ?_
    refine lv_istore_n (lv' := [(3, .int 0), (2, .int (P (6 * 0 + 0))), (0, .ref hm), (1, .int 0)]) hx hb d_M_bound_34 rfl hl (by decide) rfl (fun ls hl => ?_)
    have L_35 : ∀ (n_ : Nat) (i : Nat) (fd : Int32), n - i < n_ → (i ≤ n) → (fd = (lst i K P).foldl (bnd true 0) (P (6 * 0 + 0))) → ∀ (H : Heap) (locs : List Loc) (ls : Array Slot), va_P D cl [(hm, .inr (1, [.ref a, .ref b, .ref qa, .ref qu, .ref qb, .ref qh, .ref qm])), (a, .inr (6, [.ref qk, .ref qp, .int (nI n), .int (bz fu), .int (bz fa)])), (qk, .inl (cB, 3000, .inl K)), (qp, .inl (cI, 18000, .inl P))] H → va_D A [(hm, .inr (1, [.ref a, .ref b, .ref qa, .ref qu, .ref qb, .ref qh, .ref qm])), (a, .inr (6, [.ref qk, .ref qp, .int (nI n), .int (bz fu), .int (bz fa)])), (qk, .inl (cB, 3000, .inl K)), (qp, .inl (cI, 18000, .inl P))] → va_S A s.heap H locs → lv_has ls 6 [(0, .ref hm), (1, .int 0), (2, .int fd), (3, .int (nI i))] → W p l e R s m args below meth c H locs (0) (0) Q (F0 m 35 ls []) := by
      intro n_
      induction n_ with
      | zero => intro i fd hm_; exact absurd hm_ (Nat.not_lt_zero _)
      | succ n_ ih_35 =>
        intro i fd hm_ hi hF H locs ls hP hD hS hl
        refine lv_iload_n hx hb d_M_bound_35 rfl (lv_at hl 3 rfl) ?_
        refine lv_aload_n hx hb d_M_bound_36 rfl (lv_at hl 0 rfl) ?_
        refine va_get (D := D) (ci := 1) (v := .ref a) (C := R_M) (T := T_M) (N := 7) hx hb hts (ui_M _) hown hK hP 0 rfl rfl 0 (by decide) (hts _ (gwc gw_509)) (fun _ h9 => h9) rfl d_M_bound_37 ?_
        refine va_getN (D := D) (ci := 6) (v := .int (nI n)) (C := R_MPath) (T := T_MPath) (N := 5) hx hb hts (ui_MPath _) hown hK hP 1 rfl rfl 2 (by decide) ((amb_nw_10 hM).use rfl) (fun _ h9 => h9) rfl d_M_bound_40 ?_
        refine bn_ge (a1 := i) (b1 := n) (tgt := 132) hx hb (by omega) (by omega) d_M_bound_43 (by decide) (fun c_5 => ?_) (fun c_5 => ?_)
        · skip
          refine lv_iload_n hx hb d_M_bound_132 rfl (lv_at hl 2 rfl) ?_
          exact ct_reti hQ hx hb hr hlocks hP hD hS () [(hm, .inr (1, [.ref a, .ref b, .ref qa, .ref qu, .ref qb, .ref qh, .ref qm])), (a, .inr (6, [.ref qk, .ref qp, .int (nI n), .int (bz fu), .int (bz fa)])), (qk, .inl (cB, 3000, .inl K)), (qp, .inl (cI, 18000, .inl P))] [0, 1, 2, 3] (by rw [rBound_g (lo := true) (ax := 0) (by decide) (by decide) (by decide) (by decide) (show 0 < n by omega), hF, show i = n by omega]) (trivial) (rfl) rfl rfl (by omega) (by omega) d_M_bound_133
        · skip
          refine lv_iload_n hx hb d_M_bound_46 rfl (lv_at hl 1 rfl) ?_
          refine lv_iconst (v := 2) hx hb d_M_bound_47 (by decide) ?_
          refine lv_irem hx hb d_M_bound_48 (by decide) ?_
          refine tp_i (0) (by decide) ?_
          refine lv_istore (lv' := [(4, .int 0), (0, .ref hm), (1, .int 0), (2, .int fd), (3, .int (nI i))]) hx hb d_M_bound_49 hl (by decide) rfl (fun ls hl => ?_)
          have L_51 : ∀ (n_ : Nat) (j : Nat) (mm : Nat) (fe : Int32), 9 - j < n_ → (j ≤ 7) → (blim (pt K P i) ≤ j + 2 * mm) → (binF true (pt K P i) (blim (pt K P i)) mm j fe = binF true (pt K P i) (blim (pt K P i)) 4 0 fd) → (i < n) → ∀ (H : Heap) (locs : List Loc) (ls : Array Slot), va_P D cl [(hm, .inr (1, [.ref a, .ref b, .ref qa, .ref qu, .ref qb, .ref qh, .ref qm])), (a, .inr (6, [.ref qk, .ref qp, .int (nI n), .int (bz fu), .int (bz fa)])), (qk, .inl (cB, 3000, .inl K)), (qp, .inl (cI, 18000, .inl P))] H → va_D A [(hm, .inr (1, [.ref a, .ref b, .ref qa, .ref qu, .ref qb, .ref qh, .ref qm])), (a, .inr (6, [.ref qk, .ref qp, .int (nI n), .int (bz fu), .int (bz fa)])), (qk, .inl (cB, 3000, .inl K)), (qp, .inl (cI, 18000, .inl P))] → va_S A s.heap H locs → lv_has ls 6 [(0, .ref hm), (1, .int 0), (2, .int fe), (3, .int (nI i)), (4, .int (nI j))] → W p l e R s m args below meth c H locs (0) (0) Q (F0 m 51 ls []) := by
            intro n_
            induction n_ with
            | zero => intro j mm fe hm_; exact absurd hm_ (Nat.not_lt_zero _)
            | succ n_ ih_51 =>
              intro j mm fe hm_ hj hmm hB hi2 H locs ls hP hD hS hl
              refine lv_iload hx hb d_M_bound_51 (lv_at hl 4 rfl) ?_
              refine lv_aload_n hx hb d_M_bound_53 rfl (lv_at hl 0 rfl) ?_
              refine va_get (D := D) (ci := 1) (v := .ref a) (C := R_M) (T := T_M) (N := 7) hx hb hts (ui_M _) hown hK hP 0 rfl rfl 0 (by decide) (hts _ (gwc gw_509)) (fun _ h9 => h9) rfl d_M_bound_54 ?_
              refine va_getN (D := D) (ci := 6) (v := .ref qk) (C := R_MPath) (T := T_MPath) (N := 5) hx hb hts (ui_MPath _) hown hK hP 1 rfl rfl 0 (by decide) ((amb_nw_9 hM).use rfl) (fun _ h9 => h9) rfl d_M_bound_57 ?_
              refine lv_iload_n hx hb d_M_bound_60 rfl (lv_at hl 3 rfl) ?_
              refine ld_b hx hb hK hP 2 1 rfl rfl i (by omega) (by omega) d_M_bound_61 ?_
              refine lv_iconst (v := 2) hx hb d_M_bound_62 (by decide) ?_
              refine lv_icmp_ne (tgt := 71) hx hb d_M_bound_63 (by decide) (fun c_6 => ?_) (fun c_6 => ?_)
              · skip
                have hlim := blim_n (P := P) c_6
                refine lv_iconst (v := 2) hx hb d_M_bound_71 (by decide) ?_
                refine bn_ge (a1 := j) (b1 := 2) (tgt := 126) hx hb (by omega) (by omega) d_M_bound_72 (by decide) (fun c_7 => ?_) (fun c_7 => ?_)
                · skip
                  rw [hlim, bin_end c_7] at hB
                  refine lv_iinc (v := nI (i + 1)) (lv' := [(3, .int (nI (i + 1))), (0, .ref hm), (1, .int 0), (2, .int fe), (4, .int (nI j))]) hx hb d_M_bound_126 hl (k := 3) rfl (by first | exact nI_add _ 1 | rfl | decide) (by decide) rfl (fun ls hl => ?_)
                  refine lv_goto (tgt := 35) hx hb d_M_bound_129 (by decide) ?_
                  exact ih_35 (i + 1) fe (by omega) (by omega) (bnd_s hF (by rw [hlim, ← hB])) _ _ _ hP hD hS (lv_sub hl [1, 2, 3, 0] rfl)
                · skip
                  refine lv_aload_n hx hb d_M_bound_75 rfl (lv_at hl 0 rfl) ?_
                  refine va_get (D := D) (ci := 1) (v := .ref a) (C := R_M) (T := T_M) (N := 7) hx hb hts (ui_M _) hown hK hP 0 rfl rfl 0 (by decide) (hts _ (gwc gw_509)) (fun _ h9 => h9) rfl d_M_bound_76 ?_
                  refine lv_iload_n hx hb d_M_bound_79 rfl (lv_at hl 3 rfl) ?_
                  refine lv_iload hx hb d_M_bound_80 (lv_at hl 4 rfl) ?_
                  refine ct_callV (ci := 6) (q0 := 1) (As := [.int (nI i), .int (nI j)]) (rest := []) (wr := [(hm, .inr (1, [.ref a, .ref b, .ref qa, .ref qu, .ref qb, .ref qh, .ref qm]))]) (n := 2) (c_MPath_get l D cI cB cJ qQ  a qk qp n K P fu fa i j (by omega) (by omega)) hx hb hml hown hts (amb_ok qQ) hK hP hD hS hA hM (gi_V gw_540 gw_541 gw_542 gw_34 gw_543) rfl (by decide +kernel) ⟨by omega, by omega⟩ [1, 2, 3] [0] rfl rfl rfl rfl (by decide) rfl rfl rfl hl.1 rfl (Nat.le_of_ble_eq_true rfl) d_M_bound_82 ⟨by omega, by omega⟩ (fun u_8 H locs hok hP hD hS => ?_)
                  have hP : va_P D cl [(hm, .inr (1, [.ref a, .ref b, .ref qa, .ref qu, .ref qb, .ref qh, .ref qm])), (a, .inr (6, [.ref qk, .ref qp, .int (nI n), .int (bz fu), .int (bz fa)])), (qk, .inl (cB, 3000, .inl K)), (qp, .inl (cI, 18000, .inl P))] H := hP
                  have hD : va_D A [(hm, .inr (1, [.ref a, .ref b, .ref qa, .ref qu, .ref qb, .ref qh, .ref qm])), (a, .inr (6, [.ref qk, .ref qp, .int (nI n), .int (bz fu), .int (bz fa)])), (qk, .inl (cB, 3000, .inl K)), (qp, .inl (cI, 18000, .inl P))] := hD
                  refine W.eq (g2 := F0 m 85 ls [.int (P (6 * i + j))]) rfl ?_
                  refine lv_istore (lv' := [(5, .int (P (6 * i + j))), (0, .ref hm), (1, .int 0), (2, .int fe), (3, .int (nI i)), (4, .int (nI j))]) hx hb d_M_bound_85 hl (by decide) rfl (fun ls hl => ?_)
                  refine lv_iload_n hx hb d_M_bound_87 rfl (lv_at hl 2 rfl) ?_
                  refine lv_iconst (v := 2) hx hb d_M_bound_88 (by decide) ?_
                  refine bn_ge (a1 := 0) (b1 := 2) (tgt := 107) hx hb (by omega) (by omega) d_M_bound_89 (by decide) (fun c_9 => ?_) (fun c_9 => ?_)
                  · exact absurd c_9 (by decide)
                  refine lv_iload hx hb d_M_bound_92 (lv_at hl 0 rfl) ?_
                  refine lv_iload_n hx hb d_M_bound_94 rfl (lv_at hl 3 rfl) ?_
                  refine lv_icmp_ge (tgt := 103) hx hb d_M_bound_95 (by decide) (fun c_10 => ?_) (fun c_10 => ?_)
                  · skip
                    have c95 := Int32.not_lt.mpr c_10
                    refine lv_iload_n hx hb d_M_bound_103 rfl (lv_at hl 3 rfl) ?_
                    refine lv_goto (tgt := 119) hx hb d_M_bound_104 (by decide) ?_
                    refine lv_istore_n (lv' := [(2, .int fe), (5, .int (P (6 * i + j))), (0, .ref hm), (1, .int 0), (3, .int (nI i)), (4, .int (nI j))]) hx hb d_M_bound_119 rfl hl (by decide) rfl (fun ls hl => ?_)
                    refine lv_iinc (v := nI (j + 2)) (lv' := [(4, .int (nI (j + 2))), (2, .int fe), (5, .int (P (6 * i + j))), (0, .ref hm), (1, .int 0), (3, .int (nI i))]) hx hb d_M_bound_120 hl (k := 5) rfl (by first | exact nI_add _ 2 | rfl | decide) (by decide) rfl (fun ls hl => ?_)
                    refine lv_goto (tgt := 51) hx hb d_M_bound_123 (by decide) ?_
                    exact ih_51 (j + 2) (mm - 1) fe (by omega) (by omega) (by rw [hlim] at hmm ⊢; omega) (by rw [hlim, bin_go c_7 (by have h9 := hmm; rw [hlim] at h9; exact h9) (by omega), bst_tf c95] at hB; rw [hlim]; exact hB) (by omega) _ _ _ hP hD hS (lv_sub hl [3, 4, 1, 5, 0] rfl)
                  · skip
                    have c95 := Int32.not_le.mp c_10
                    refine lv_iload hx hb d_M_bound_98 (lv_at hl 0 rfl) ?_
                    refine lv_goto (tgt := 119) hx hb d_M_bound_100 (by decide) ?_
                    refine lv_istore_n (lv' := [(2, .int (P (6 * i + j))), (5, .int (P (6 * i + j))), (0, .ref hm), (1, .int 0), (3, .int (nI i)), (4, .int (nI j))]) hx hb d_M_bound_119 rfl hl (by decide) rfl (fun ls hl => ?_)
                    refine lv_iinc (v := nI (j + 2)) (lv' := [(4, .int (nI (j + 2))), (2, .int (P (6 * i + j))), (5, .int (P (6 * i + j))), (0, .ref hm), (1, .int 0), (3, .int (nI i))]) hx hb d_M_bound_120 hl (k := 5) rfl (by first | exact nI_add _ 2 | rfl | decide) (by decide) rfl (fun ls hl => ?_)
                    refine lv_goto (tgt := 51) hx hb d_M_bound_123 (by decide) ?_
                    exact ih_51 (j + 2) (mm - 1) (P (6 * i + j)) (by omega) (by omega) (by rw [hlim] at hmm ⊢; omega) (by rw [hlim, bin_go c_7 (by have h9 := hmm; rw [hlim] at h9; exact h9) (by omega), bst_tt c95] at hB; rw [hlim]; exact hB) (by omega) _ _ _ hP hD hS (lv_sub hl [3, 4, 1, 5, 0] rfl)
              · skip
                have hlim := blim_y (P := P) c_6
                refine lv_bipush (v := 6) hx hb d_M_bound_66 (by decide) ?_
                refine lv_goto (tgt := 72) hx hb d_M_bound_68 (by decide) ?_
                refine bn_ge (a1 := j) (b1 := 6) (tgt := 126) hx hb (by omega) (by omega) d_M_bound_72 (by decide) (fun c_11 => ?_) (fun c_11 => ?_)
                · skip
                  rw [hlim, bin_end c_11] at hB
                  refine lv_iinc (v := nI (i + 1)) (lv' := [(3, .int (nI (i + 1))), (0, .ref hm), (1, .int 0), (2, .int fe), (4, .int (nI j))]) hx hb d_M_bound_126 hl (k := 3) rfl (by first | exact nI_add _ 1 | rfl | decide) (by decide) rfl (fun ls hl => ?_)
                  refine lv_goto (tgt := 35) hx hb d_M_bound_129 (by decide) ?_
                  exact ih_35 (i + 1) fe (by omega) (by omega) (bnd_s hF (by rw [hlim, ← hB])) _ _ _ hP hD hS (lv_sub hl [1, 2, 3, 0] rfl)
                · skip
                  refine lv_aload_n hx hb d_M_bound_75 rfl (lv_at hl 0 rfl) ?_
                  refine va_get (D := D) (ci := 1) (v := .ref a) (C := R_M) (T := T_M) (N := 7) hx hb hts (ui_M _) hown hK hP 0 rfl rfl 0 (by decide) (hts _ (gwc gw_509)) (fun _ h9 => h9) rfl d_M_bound_76 ?_
                  refine lv_iload_n hx hb d_M_bound_79 rfl (lv_at hl 3 rfl) ?_
                  refine lv_iload hx hb d_M_bound_80 (lv_at hl 4 rfl) ?_
                  refine ct_callV (ci := 6) (q0 := 1) (As := [.int (nI i), .int (nI j)]) (rest := []) (wr := [(hm, .inr (1, [.ref a, .ref b, .ref qa, .ref qu, .ref qb, .ref qh, .ref qm]))]) (n := 2) (c_MPath_get l D cI cB cJ qQ  a qk qp n K P fu fa i j (by omega) (by omega)) hx hb hml hown hts (amb_ok qQ) hK hP hD hS hA hM (gi_V gw_540 gw_541 gw_542 gw_34 gw_543) rfl (by decide +kernel) ⟨by omega, by omega⟩ [1, 2, 3] [0] rfl rfl rfl rfl (by decide) rfl rfl rfl hl.1 rfl (Nat.le_of_ble_eq_true rfl) d_M_bound_82 ⟨by omega, by omega⟩ (fun u_12 H locs hok hP hD hS => ?_)
                  have hP : va_P D cl [(hm, .inr (1, [.ref a, .ref b, .ref qa, .ref qu, .ref qb, .ref qh, .ref qm])), (a, .inr (6, [.ref qk, .ref qp, .int (nI n), .int (bz fu), .int (bz fa)])), (qk, .inl (cB, 3000, .inl K)), (qp, .inl (cI, 18000, .inl P))] H := hP
                  have hD : va_D A [(hm, .inr (1, [.ref a, .ref b, .ref qa, .ref qu, .ref qb, .ref qh, .ref qm])), (a, .inr (6, [.ref qk, .ref qp, .int (nI n), .int (bz fu), .int (bz fa)])), (qk, .inl (cB, 3000, .inl K)), (qp, .inl (cI, 18000, .inl P))] := hD
                  refine W.eq (g2 := F0 m 85 ls [.int (P (6 * i + j))]) rfl ?_
                  refine lv_istore (lv' := [(5, .int (P (6 * i + j))), (0, .ref hm), (1, .int 0), (2, .int fe), (3, .int (nI i)), (4, .int (nI j))]) hx hb d_M_bound_85 hl (by decide) rfl (fun ls hl => ?_)
                  refine lv_iload_n hx hb d_M_bound_87 rfl (lv_at hl 2 rfl) ?_
                  refine lv_iconst (v := 2) hx hb d_M_bound_88 (by decide) ?_
                  refine bn_ge (a1 := 0) (b1 := 2) (tgt := 107) hx hb (by omega) (by omega) d_M_bound_89 (by decide) (fun c_13 => ?_) (fun c_13 => ?_)
                  · exact absurd c_13 (by decide)
                  refine lv_iload hx hb d_M_bound_92 (lv_at hl 0 rfl) ?_
                  refine lv_iload_n hx hb d_M_bound_94 rfl (lv_at hl 3 rfl) ?_
                  refine lv_icmp_ge (tgt := 103) hx hb d_M_bound_95 (by decide) (fun c_14 => ?_) (fun c_14 => ?_)
                  · skip
                    have c95 := Int32.not_lt.mpr c_14
                    refine lv_iload_n hx hb d_M_bound_103 rfl (lv_at hl 3 rfl) ?_
                    refine lv_goto (tgt := 119) hx hb d_M_bound_104 (by decide) ?_
                    refine lv_istore_n (lv' := [(2, .int fe), (5, .int (P (6 * i + j))), (0, .ref hm), (1, .int 0), (3, .int (nI i)), (4, .int (nI j))]) hx hb d_M_bound_119 rfl hl (by decide) rfl (fun ls hl => ?_)
                    refine lv_iinc (v := nI (j + 2)) (lv' := [(4, .int (nI (j + 2))), (2, .int fe), (5, .int (P (6 * i + j))), (0, .ref hm), (1, .int 0), (3, .int (nI i))]) hx hb d_M_bound_120 hl (k := 5) rfl (by first | exact nI_add _ 2 | rfl | decide) (by decide) rfl (fun ls hl => ?_)
                    refine lv_goto (tgt := 51) hx hb d_M_bound_123 (by decide) ?_
                    exact ih_51 (j + 2) (mm - 1) fe (by omega) (by omega) (by rw [hlim] at hmm ⊢; omega) (by rw [hlim, bin_go c_11 (by have h9 := hmm; rw [hlim] at h9; exact h9) (by omega), bst_tf c95] at hB; rw [hlim]; exact hB) (by omega) _ _ _ hP hD hS (lv_sub hl [3, 4, 1, 5, 0] rfl)
                  · skip
                    have c95 := Int32.not_le.mp c_14
                    refine lv_iload hx hb d_M_bound_98 (lv_at hl 0 rfl) ?_
                    refine lv_goto (tgt := 119) hx hb d_M_bound_100 (by decide) ?_
                    refine lv_istore_n (lv' := [(2, .int (P (6 * i + j))), (5, .int (P (6 * i + j))), (0, .ref hm), (1, .int 0), (3, .int (nI i)), (4, .int (nI j))]) hx hb d_M_bound_119 rfl hl (by decide) rfl (fun ls hl => ?_)
                    refine lv_iinc (v := nI (j + 2)) (lv' := [(4, .int (nI (j + 2))), (2, .int (P (6 * i + j))), (5, .int (P (6 * i + j))), (0, .ref hm), (1, .int 0), (3, .int (nI i))]) hx hb d_M_bound_120 hl (k := 5) rfl (by first | exact nI_add _ 2 | rfl | decide) (by decide) rfl (fun ls hl => ?_)
                    refine lv_goto (tgt := 51) hx hb d_M_bound_123 (by decide) ?_
                    exact ih_51 (j + 2) (mm - 1) (P (6 * i + j)) (by omega) (by omega) (by rw [hlim] at hmm ⊢; omega) (by rw [hlim, bin_go c_11 (by have h9 := hmm; rw [hlim] at h9; exact h9) (by omega), bst_tt c95] at hB; rw [hlim]; exact hB) (by omega) _ _ _ hP hD hS (lv_sub hl [3, 4, 1, 5, 0] rfl)
          exact L_51 ((9 - 0) + 1) 0 4 fd (Nat.lt_succ_self _) (by omega) (by unfold blim; split <;> omega) (rfl) (by omega) _ _ _ hP hD hS (lv_sub hl [1, 2, 3, 4, 0] rfl)
    exact L_35 ((n - 0) + 1) 0 (P (6 * 0 + 0)) (Nat.lt_succ_self _) (by omega) (rfl) _ _ _ hP hD hS (lv_sub hl [2, 3, 1, 0] rfl)
set_option maxHeartbeats 40000000 in
set_option maxRecDepth 100000 in
/-- bound(1) -/
theorem c_M_bound1 (l : Launch) (D : va_G) (cI cB cJ : ClassId) (qQ : Nat) (hm : Nat) (a : Nat) (b : Nat) (qa : Nat) (qu : Nat) (qb : Nat) (qh : Nat) (qm : Nat) (qk : Nat) (qp : Nat) (n : Nat) (K : Nat → Int32) (P : Nat → Int32) (fu : Bool) (fa : Bool) (hn : n ≤ 3000) : ct l D cl [(cI, .int), (cB, .byte), (cJ, .long)] (amb qQ) y_M_bound w_M_bound 1 22 (0) (0) [.ref hm, .int 1] [(hm, .inr (1, [.ref a, .ref b, .ref qa, .ref qu, .ref qb, .ref qh, .ref qm])), (a, .inr (6, [.ref qk, .ref qp, .int (nI n), .int (bz fu), .int (bz fa)])), (qk, .inl (cB, 3000, .inl K)), (qp, .inl (cI, 18000, .inl P))] (fun _ : Unit => True) (fun _ : Unit => some (.int (rBound (lst n K P) 1))) (fun _ : Unit => [(hm, .inr (1, [.ref a, .ref b, .ref qa, .ref qu, .ref qb, .ref qh, .ref qm])), (a, .inr (6, [.ref qk, .ref qp, .int (nI n), .int (bz fu), .int (bz fa)])), (qk, .inl (cB, 3000, .inl K)), (qp, .inl (cI, 18000, .inl P))]) := by
  refine ct_ofW (cc := b_M_bound) (maxL := 6) (ret := (some .int)) (by decide) rfl (Nat.le_of_ble_eq_true rfl) ?_
  intro p e R s m args below meth c A Q ls hx hb hr hml hts hown hlocks hname hRf hRc hRs hRl hQ hK hP hD hS hA hM hl
  have hl : lv_has ls 6 [(0, .ref hm), (1, .int 1)] := hl
  refine lv_aload_n hx hb d_M_bound_0 rfl (lv_at hl 0 rfl) ?_
  refine va_get (D := D) (ci := 1) (v := .ref a) (C := R_M) (T := T_M) (N := 7) hx hb hts (ui_M _) hown hK hP 0 rfl rfl 0 (by decide) (hts _ (gwc gw_509)) (fun _ h9 => h9) rfl d_M_bound_1 ?_
  refine va_getN (D := D) (ci := 6) (v := .int (nI n)) (C := R_MPath) (T := T_MPath) (N := 5) hx hb hts (ui_MPath _) hown hK hP 1 rfl rfl 2 (by decide) ((amb_nw_10 hM).use rfl) (fun _ h9 => h9) rfl d_M_bound_4 ?_
  refine bz_eq (a1 := n) (tgt := 19) hx hb (by omega) d_M_bound_7 (by decide) (fun c_1 => ?_) (fun c_1 => ?_)
  · skip
    refine lv_iconst (v := 0) hx hb d_M_bound_19 (by decide) ?_
    exact ct_reti hQ hx hb hr hlocks hP hD hS () [(hm, .inr (1, [.ref a, .ref b, .ref qa, .ref qu, .ref qb, .ref qh, .ref qm])), (a, .inr (6, [.ref qk, .ref qp, .int (nI n), .int (bz fu), .int (bz fa)])), (qk, .inl (cB, 3000, .inl K)), (qp, .inl (cI, 18000, .inl P))] [0, 1, 2, 3] (by rw [rBound, if_pos (Or.inl (by rw [lst_len]; exact c_1))]) (trivial) (rfl) rfl rfl (by omega) (by omega) d_M_bound_20
  · skip
    refine lv_iload_n hx hb d_M_bound_10 rfl (lv_at hl 1 rfl) ?_
    refine lv_if_lt (tgt := 19) hx hb d_M_bound_11 (by decide) (fun c_2 => ?_) (fun c_2 => ?_)
    · exact absurd c_2 (by decide)
    refine lv_iload_n hx hb d_M_bound_14 rfl (lv_at hl 1 rfl) ?_
    refine lv_iconst (v := 3) hx hb d_M_bound_15 (by decide) ?_
    refine bn_le (a1 := 1) (b1 := 3) (tgt := 21) hx hb (by omega) (by omega) d_M_bound_16 (by decide) (fun c_3 => ?_) (fun c_3 => ?_)
    rotate_left
    · exact absurd c_3 (by decide)
    refine lv_aload_n hx hb d_M_bound_21 rfl (lv_at hl 0 rfl) ?_
    refine va_get (D := D) (ci := 1) (v := .ref a) (C := R_M) (T := T_M) (N := 7) hx hb hts (ui_M _) hown hK hP 0 rfl rfl 0 (by decide) (hts _ (gwc gw_509)) (fun _ h9 => h9) rfl d_M_bound_22 ?_
    refine lv_iconst (v := 0) hx hb d_M_bound_25 (by decide) ?_
    refine lv_iload_n hx hb d_M_bound_26 rfl (lv_at hl 1 rfl) ?_
    refine lv_iconst (v := 2) hx hb d_M_bound_27 (by decide) ?_
    refine lv_irem hx hb d_M_bound_28 (by decide) ?_
    refine tp_i (1) (by decide) ?_
    refine ct_callV (ci := 6) (q0 := 1) (As := [.int 0, .int 1]) (rest := []) (wr := [(hm, .inr (1, [.ref a, .ref b, .ref qa, .ref qu, .ref qb, .ref qh, .ref qm]))]) (n := 2) (c_MPath_get l D cI cB cJ qQ  a qk qp n K P fu fa 0 1 (by omega) (by decide)) hx hb hml hown hts (amb_ok qQ) hK hP hD hS hA hM (gi_V gw_540 gw_541 gw_542 gw_34 gw_543) rfl (by decide +kernel) ⟨by omega, by omega⟩ [1, 2, 3] [0] rfl rfl rfl rfl (by decide) rfl rfl rfl hl.1 rfl (Nat.le_of_ble_eq_true rfl) d_M_bound_29 ⟨by omega, by omega⟩ (fun u_4 H locs hok hP hD hS => ?_)
    have hP : va_P D cl [(hm, .inr (1, [.ref a, .ref b, .ref qa, .ref qu, .ref qb, .ref qh, .ref qm])), (a, .inr (6, [.ref qk, .ref qp, .int (nI n), .int (bz fu), .int (bz fa)])), (qk, .inl (cB, 3000, .inl K)), (qp, .inl (cI, 18000, .inl P))] H := hP
    have hD : va_D A [(hm, .inr (1, [.ref a, .ref b, .ref qa, .ref qu, .ref qb, .ref qh, .ref qm])), (a, .inr (6, [.ref qk, .ref qp, .int (nI n), .int (bz fu), .int (bz fa)])), (qk, .inl (cB, 3000, .inl K)), (qp, .inl (cI, 18000, .inl P))] := hD
    refine W.eq (g2 := F0 m 32 ls [.int (P (6 * 0 + 1))]) rfl ?_
    refine lv_istore_n (lv' := [(2, .int (P (6 * 0 + 1))), (0, .ref hm), (1, .int 1)]) hx hb d_M_bound_32 rfl hl (by decide) rfl (fun ls hl => ?_)
    refine lv_iconst (v := 0) hx hb d_M_bound_33 (by decide) ?_
    refine lv_istore_n (lv' := [(3, .int 0), (2, .int (P (6 * 0 + 1))), (0, .ref hm), (1, .int 1)]) hx hb d_M_bound_34 rfl hl (by decide) rfl (fun ls hl => ?_)
    have L_35 : ∀ (n_ : Nat) (i : Nat) (fd : Int32), n - i < n_ → (i ≤ n) → (fd = (lst i K P).foldl (bnd true 1) (P (6 * 0 + 1))) → ∀ (H : Heap) (locs : List Loc) (ls : Array Slot), va_P D cl [(hm, .inr (1, [.ref a, .ref b, .ref qa, .ref qu, .ref qb, .ref qh, .ref qm])), (a, .inr (6, [.ref qk, .ref qp, .int (nI n), .int (bz fu), .int (bz fa)])), (qk, .inl (cB, 3000, .inl K)), (qp, .inl (cI, 18000, .inl P))] H → va_D A [(hm, .inr (1, [.ref a, .ref b, .ref qa, .ref qu, .ref qb, .ref qh, .ref qm])), (a, .inr (6, [.ref qk, .ref qp, .int (nI n), .int (bz fu), .int (bz fa)])), (qk, .inl (cB, 3000, .inl K)), (qp, .inl (cI, 18000, .inl P))] → va_S A s.heap H locs → lv_has ls 6 [(0, .ref hm), (1, .int 1), (2, .int fd), (3, .int (nI i))] → W p l e R s m args below meth c H locs (0) (0) Q (F0 m 35 ls []) := by
      intro n_
      induction n_ with
      | zero => intro i fd hm_; exact absurd hm_ (Nat.not_lt_zero _)
      | succ n_ ih_35 =>
        intro i fd hm_ hi hF H locs ls hP hD hS hl
        refine lv_iload_n hx hb d_M_bound_35 rfl (lv_at hl 3 rfl) ?_
        refine lv_aload_n hx hb d_M_bound_36 rfl (lv_at hl 0 rfl) ?_
        refine va_get (D := D) (ci := 1) (v := .ref a) (C := R_M) (T := T_M) (N := 7) hx hb hts (ui_M _) hown hK hP 0 rfl rfl 0 (by decide) (hts _ (gwc gw_509)) (fun _ h9 => h9) rfl d_M_bound_37 ?_
        refine va_getN (D := D) (ci := 6) (v := .int (nI n)) (C := R_MPath) (T := T_MPath) (N := 5) hx hb hts (ui_MPath _) hown hK hP 1 rfl rfl 2 (by decide) ((amb_nw_10 hM).use rfl) (fun _ h9 => h9) rfl d_M_bound_40 ?_
        refine bn_ge (a1 := i) (b1 := n) (tgt := 132) hx hb (by omega) (by omega) d_M_bound_43 (by decide) (fun c_5 => ?_) (fun c_5 => ?_)
        · skip
          refine lv_iload_n hx hb d_M_bound_132 rfl (lv_at hl 2 rfl) ?_
          exact ct_reti hQ hx hb hr hlocks hP hD hS () [(hm, .inr (1, [.ref a, .ref b, .ref qa, .ref qu, .ref qb, .ref qh, .ref qm])), (a, .inr (6, [.ref qk, .ref qp, .int (nI n), .int (bz fu), .int (bz fa)])), (qk, .inl (cB, 3000, .inl K)), (qp, .inl (cI, 18000, .inl P))] [0, 1, 2, 3] (by rw [rBound_g (lo := true) (ax := 1) (by decide) (by decide) (by decide) (by decide) (show 0 < n by omega), hF, show i = n by omega]) (trivial) (rfl) rfl rfl (by omega) (by omega) d_M_bound_133
        · skip
          refine lv_iload_n hx hb d_M_bound_46 rfl (lv_at hl 1 rfl) ?_
          refine lv_iconst (v := 2) hx hb d_M_bound_47 (by decide) ?_
          refine lv_irem hx hb d_M_bound_48 (by decide) ?_
          refine tp_i (1) (by decide) ?_
          refine lv_istore (lv' := [(4, .int 1), (0, .ref hm), (1, .int 1), (2, .int fd), (3, .int (nI i))]) hx hb d_M_bound_49 hl (by decide) rfl (fun ls hl => ?_)
          have L_51 : ∀ (n_ : Nat) (j : Nat) (mm : Nat) (fe : Int32), 9 - j < n_ → (j ≤ 7) → (blim (pt K P i) ≤ j + 2 * mm) → (binF true (pt K P i) (blim (pt K P i)) mm j fe = binF true (pt K P i) (blim (pt K P i)) 4 1 fd) → (i < n) → ∀ (H : Heap) (locs : List Loc) (ls : Array Slot), va_P D cl [(hm, .inr (1, [.ref a, .ref b, .ref qa, .ref qu, .ref qb, .ref qh, .ref qm])), (a, .inr (6, [.ref qk, .ref qp, .int (nI n), .int (bz fu), .int (bz fa)])), (qk, .inl (cB, 3000, .inl K)), (qp, .inl (cI, 18000, .inl P))] H → va_D A [(hm, .inr (1, [.ref a, .ref b, .ref qa, .ref qu, .ref qb, .ref qh, .ref qm])), (a, .inr (6, [.ref qk, .ref qp, .int (nI n), .int (bz fu), .int (bz fa)])), (qk, .inl (cB, 3000, .inl K)), (qp, .inl (cI, 18000, .inl P))] → va_S A s.heap H locs → lv_has ls 6 [(0, .ref hm), (1, .int 1), (2, .int fe), (3, .int (nI i)), (4, .int (nI j))] → W p l e R s m args below meth c H locs (0) (0) Q (F0 m 51 ls []) := by
            intro n_
            induction n_ with
            | zero => intro j mm fe hm_; exact absurd hm_ (Nat.not_lt_zero _)
            | succ n_ ih_51 =>
              intro j mm fe hm_ hj hmm hB hi2 H locs ls hP hD hS hl
              refine lv_iload hx hb d_M_bound_51 (lv_at hl 4 rfl) ?_
              refine lv_aload_n hx hb d_M_bound_53 rfl (lv_at hl 0 rfl) ?_
              refine va_get (D := D) (ci := 1) (v := .ref a) (C := R_M) (T := T_M) (N := 7) hx hb hts (ui_M _) hown hK hP 0 rfl rfl 0 (by decide) (hts _ (gwc gw_509)) (fun _ h9 => h9) rfl d_M_bound_54 ?_
              refine va_getN (D := D) (ci := 6) (v := .ref qk) (C := R_MPath) (T := T_MPath) (N := 5) hx hb hts (ui_MPath _) hown hK hP 1 rfl rfl 0 (by decide) ((amb_nw_9 hM).use rfl) (fun _ h9 => h9) rfl d_M_bound_57 ?_
              refine lv_iload_n hx hb d_M_bound_60 rfl (lv_at hl 3 rfl) ?_
              refine ld_b hx hb hK hP 2 1 rfl rfl i (by omega) (by omega) d_M_bound_61 ?_
              refine lv_iconst (v := 2) hx hb d_M_bound_62 (by decide) ?_
              refine lv_icmp_ne (tgt := 71) hx hb d_M_bound_63 (by decide) (fun c_6 => ?_) (fun c_6 => ?_)
              · skip
                have hlim := blim_n (P := P) c_6
                refine lv_iconst (v := 2) hx hb d_M_bound_71 (by decide) ?_
                refine bn_ge (a1 := j) (b1 := 2) (tgt := 126) hx hb (by omega) (by omega) d_M_bound_72 (by decide) (fun c_7 => ?_) (fun c_7 => ?_)
                · skip
                  rw [hlim, bin_end c_7] at hB
                  refine lv_iinc (v := nI (i + 1)) (lv' := [(3, .int (nI (i + 1))), (0, .ref hm), (1, .int 1), (2, .int fe), (4, .int (nI j))]) hx hb d_M_bound_126 hl (k := 3) rfl (by first | exact nI_add _ 1 | rfl | decide) (by decide) rfl (fun ls hl => ?_)
                  refine lv_goto (tgt := 35) hx hb d_M_bound_129 (by decide) ?_
                  exact ih_35 (i + 1) fe (by omega) (by omega) (bnd_s hF (by rw [hlim, ← hB])) _ _ _ hP hD hS (lv_sub hl [1, 2, 3, 0] rfl)
                · skip
                  refine lv_aload_n hx hb d_M_bound_75 rfl (lv_at hl 0 rfl) ?_
                  refine va_get (D := D) (ci := 1) (v := .ref a) (C := R_M) (T := T_M) (N := 7) hx hb hts (ui_M _) hown hK hP 0 rfl rfl 0 (by decide) (hts _ (gwc gw_509)) (fun _ h9 => h9) rfl d_M_bound_76 ?_
                  refine lv_iload_n hx hb d_M_bound_79 rfl (lv_at hl 3 rfl) ?_
                  refine lv_iload hx hb d_M_bound_80 (lv_at hl 4 rfl) ?_
                  refine ct_callV (ci := 6) (q0 := 1) (As := [.int (nI i), .int (nI j)]) (rest := []) (wr := [(hm, .inr (1, [.ref a, .ref b, .ref qa, .ref qu, .ref qb, .ref qh, .ref qm]))]) (n := 2) (c_MPath_get l D cI cB cJ qQ  a qk qp n K P fu fa i j (by omega) (by omega)) hx hb hml hown hts (amb_ok qQ) hK hP hD hS hA hM (gi_V gw_540 gw_541 gw_542 gw_34 gw_543) rfl (by decide +kernel) ⟨by omega, by omega⟩ [1, 2, 3] [0] rfl rfl rfl rfl (by decide) rfl rfl rfl hl.1 rfl (Nat.le_of_ble_eq_true rfl) d_M_bound_82 ⟨by omega, by omega⟩ (fun u_8 H locs hok hP hD hS => ?_)
                  have hP : va_P D cl [(hm, .inr (1, [.ref a, .ref b, .ref qa, .ref qu, .ref qb, .ref qh, .ref qm])), (a, .inr (6, [.ref qk, .ref qp, .int (nI n), .int (bz fu), .int (bz fa)])), (qk, .inl (cB, 3000, .inl K)), (qp, .inl (cI, 18000, .inl P))] H := hP
                  have hD : va_D A [(hm, .inr (1, [.ref a, .ref b, .ref qa, .ref qu, .ref qb, .ref qh, .ref qm])), (a, .inr (6, [.ref qk, .ref qp, .int (nI n), .int (bz fu), .int (bz fa)])), (qk, .inl (cB, 3000, .inl K)), (qp, .inl (cI, 18000, .inl P))] := hD
                  refine W.eq (g2 := F0 m 85 ls [.int (P (6 * i + j))]) rfl ?_
                  refine lv_istore (lv' := [(5, .int (P (6 * i + j))), (0, .ref hm), (1, .int 1), (2, .int fe), (3, .int (nI i)), (4, .int (nI j))]) hx hb d_M_bound_85 hl (by decide) rfl (fun ls hl => ?_)
                  refine lv_iload_n hx hb d_M_bound_87 rfl (lv_at hl 2 rfl) ?_
                  refine lv_iconst (v := 2) hx hb d_M_bound_88 (by decide) ?_
                  refine bn_ge (a1 := 1) (b1 := 2) (tgt := 107) hx hb (by omega) (by omega) d_M_bound_89 (by decide) (fun c_9 => ?_) (fun c_9 => ?_)
                  · exact absurd c_9 (by decide)
                  refine lv_iload hx hb d_M_bound_92 (lv_at hl 0 rfl) ?_
                  refine lv_iload_n hx hb d_M_bound_94 rfl (lv_at hl 3 rfl) ?_
                  refine lv_icmp_ge (tgt := 103) hx hb d_M_bound_95 (by decide) (fun c_10 => ?_) (fun c_10 => ?_)
                  · skip
                    have c95 := Int32.not_lt.mpr c_10
                    refine lv_iload_n hx hb d_M_bound_103 rfl (lv_at hl 3 rfl) ?_
                    refine lv_goto (tgt := 119) hx hb d_M_bound_104 (by decide) ?_
                    refine lv_istore_n (lv' := [(2, .int fe), (5, .int (P (6 * i + j))), (0, .ref hm), (1, .int 1), (3, .int (nI i)), (4, .int (nI j))]) hx hb d_M_bound_119 rfl hl (by decide) rfl (fun ls hl => ?_)
                    refine lv_iinc (v := nI (j + 2)) (lv' := [(4, .int (nI (j + 2))), (2, .int fe), (5, .int (P (6 * i + j))), (0, .ref hm), (1, .int 1), (3, .int (nI i))]) hx hb d_M_bound_120 hl (k := 5) rfl (by first | exact nI_add _ 2 | rfl | decide) (by decide) rfl (fun ls hl => ?_)
                    refine lv_goto (tgt := 51) hx hb d_M_bound_123 (by decide) ?_
                    exact ih_51 (j + 2) (mm - 1) fe (by omega) (by omega) (by rw [hlim] at hmm ⊢; omega) (by rw [hlim, bin_go c_7 (by have h9 := hmm; rw [hlim] at h9; exact h9) (by omega), bst_tf c95] at hB; rw [hlim]; exact hB) (by omega) _ _ _ hP hD hS (lv_sub hl [3, 4, 1, 5, 0] rfl)
                  · skip
                    have c95 := Int32.not_le.mp c_10
                    refine lv_iload hx hb d_M_bound_98 (lv_at hl 0 rfl) ?_
                    refine lv_goto (tgt := 119) hx hb d_M_bound_100 (by decide) ?_
                    refine lv_istore_n (lv' := [(2, .int (P (6 * i + j))), (5, .int (P (6 * i + j))), (0, .ref hm), (1, .int 1), (3, .int (nI i)), (4, .int (nI j))]) hx hb d_M_bound_119 rfl hl (by decide) rfl (fun ls hl => ?_)
                    refine lv_iinc (v := nI (j + 2)) (lv' := [(4, .int (nI (j + 2))), (2, .int (P (6 * i + j))), (5, .int (P (6 * i + j))), (0, .ref hm), (1, .int 1), (3, .int (nI i))]) hx hb d_M_bound_120 hl (k := 5) rfl (by first | exact nI_add _ 2 | rfl | decide) (by decide) rfl (fun ls hl => ?_)
                    refine lv_goto (tgt := 51) hx hb d_M_bound_123 (by decide) ?_
                    exact ih_51 (j + 2) (mm - 1) (P (6 * i + j)) (by omega) (by omega) (by rw [hlim] at hmm ⊢; omega) (by rw [hlim, bin_go c_7 (by have h9 := hmm; rw [hlim] at h9; exact h9) (by omega), bst_tt c95] at hB; rw [hlim]; exact hB) (by omega) _ _ _ hP hD hS (lv_sub hl [3, 4, 1, 5, 0] rfl)
              · skip
                have hlim := blim_y (P := P) c_6
                refine lv_bipush (v := 6) hx hb d_M_bound_66 (by decide) ?_
                refine lv_goto (tgt := 72) hx hb d_M_bound_68 (by decide) ?_
                refine bn_ge (a1 := j) (b1 := 6) (tgt := 126) hx hb (by omega) (by omega) d_M_bound_72 (by decide) (fun c_11 => ?_) (fun c_11 => ?_)
                · skip
                  rw [hlim, bin_end c_11] at hB
                  refine lv_iinc (v := nI (i + 1)) (lv' := [(3, .int (nI (i + 1))), (0, .ref hm), (1, .int 1), (2, .int fe), (4, .int (nI j))]) hx hb d_M_bound_126 hl (k := 3) rfl (by first | exact nI_add _ 1 | rfl | decide) (by decide) rfl (fun ls hl => ?_)
                  refine lv_goto (tgt := 35) hx hb d_M_bound_129 (by decide) ?_
                  exact ih_35 (i + 1) fe (by omega) (by omega) (bnd_s hF (by rw [hlim, ← hB])) _ _ _ hP hD hS (lv_sub hl [1, 2, 3, 0] rfl)
                · skip
                  refine lv_aload_n hx hb d_M_bound_75 rfl (lv_at hl 0 rfl) ?_
                  refine va_get (D := D) (ci := 1) (v := .ref a) (C := R_M) (T := T_M) (N := 7) hx hb hts (ui_M _) hown hK hP 0 rfl rfl 0 (by decide) (hts _ (gwc gw_509)) (fun _ h9 => h9) rfl d_M_bound_76 ?_
                  refine lv_iload_n hx hb d_M_bound_79 rfl (lv_at hl 3 rfl) ?_
                  refine lv_iload hx hb d_M_bound_80 (lv_at hl 4 rfl) ?_
                  refine ct_callV (ci := 6) (q0 := 1) (As := [.int (nI i), .int (nI j)]) (rest := []) (wr := [(hm, .inr (1, [.ref a, .ref b, .ref qa, .ref qu, .ref qb, .ref qh, .ref qm]))]) (n := 2) (c_MPath_get l D cI cB cJ qQ  a qk qp n K P fu fa i j (by omega) (by omega)) hx hb hml hown hts (amb_ok qQ) hK hP hD hS hA hM (gi_V gw_540 gw_541 gw_542 gw_34 gw_543) rfl (by decide +kernel) ⟨by omega, by omega⟩ [1, 2, 3] [0] rfl rfl rfl rfl (by decide) rfl rfl rfl hl.1 rfl (Nat.le_of_ble_eq_true rfl) d_M_bound_82 ⟨by omega, by omega⟩ (fun u_12 H locs hok hP hD hS => ?_)
                  have hP : va_P D cl [(hm, .inr (1, [.ref a, .ref b, .ref qa, .ref qu, .ref qb, .ref qh, .ref qm])), (a, .inr (6, [.ref qk, .ref qp, .int (nI n), .int (bz fu), .int (bz fa)])), (qk, .inl (cB, 3000, .inl K)), (qp, .inl (cI, 18000, .inl P))] H := hP
                  have hD : va_D A [(hm, .inr (1, [.ref a, .ref b, .ref qa, .ref qu, .ref qb, .ref qh, .ref qm])), (a, .inr (6, [.ref qk, .ref qp, .int (nI n), .int (bz fu), .int (bz fa)])), (qk, .inl (cB, 3000, .inl K)), (qp, .inl (cI, 18000, .inl P))] := hD
                  refine W.eq (g2 := F0 m 85 ls [.int (P (6 * i + j))]) rfl ?_
                  refine lv_istore (lv' := [(5, .int (P (6 * i + j))), (0, .ref hm), (1, .int 1), (2, .int fe), (3, .int (nI i)), (4, .int (nI j))]) hx hb d_M_bound_85 hl (by decide) rfl (fun ls hl => ?_)
                  refine lv_iload_n hx hb d_M_bound_87 rfl (lv_at hl 2 rfl) ?_
                  refine lv_iconst (v := 2) hx hb d_M_bound_88 (by decide) ?_
                  refine bn_ge (a1 := 1) (b1 := 2) (tgt := 107) hx hb (by omega) (by omega) d_M_bound_89 (by decide) (fun c_13 => ?_) (fun c_13 => ?_)
                  · exact absurd c_13 (by decide)
                  refine lv_iload hx hb d_M_bound_92 (lv_at hl 0 rfl) ?_
                  refine lv_iload_n hx hb d_M_bound_94 rfl (lv_at hl 3 rfl) ?_
                  refine lv_icmp_ge (tgt := 103) hx hb d_M_bound_95 (by decide) (fun c_14 => ?_) (fun c_14 => ?_)
                  · skip
                    have c95 := Int32.not_lt.mpr c_14
                    refine lv_iload_n hx hb d_M_bound_103 rfl (lv_at hl 3 rfl) ?_
                    refine lv_goto (tgt := 119) hx hb d_M_bound_104 (by decide) ?_
                    refine lv_istore_n (lv' := [(2, .int fe), (5, .int (P (6 * i + j))), (0, .ref hm), (1, .int 1), (3, .int (nI i)), (4, .int (nI j))]) hx hb d_M_bound_119 rfl hl (by decide) rfl (fun ls hl => ?_)
                    refine lv_iinc (v := nI (j + 2)) (lv' := [(4, .int (nI (j + 2))), (2, .int fe), (5, .int (P (6 * i + j))), (0, .ref hm), (1, .int 1), (3, .int (nI i))]) hx hb d_M_bound_120 hl (k := 5) rfl (by first | exact nI_add _ 2 | rfl | decide) (by decide) rfl (fun ls hl => ?_)
                    refine lv_goto (tgt := 51) hx hb d_M_bound_123 (by decide) ?_
                    exact ih_51 (j + 2) (mm - 1) fe (by omega) (by omega) (by rw [hlim] at hmm ⊢; omega) (by rw [hlim, bin_go c_11 (by have h9 := hmm; rw [hlim] at h9; exact h9) (by omega), bst_tf c95] at hB; rw [hlim]; exact hB) (by omega) _ _ _ hP hD hS (lv_sub hl [3, 4, 1, 5, 0] rfl)
                  · skip
                    have c95 := Int32.not_le.mp c_14
                    refine lv_iload hx hb d_M_bound_98 (lv_at hl 0 rfl) ?_
                    refine lv_goto (tgt := 119) hx hb d_M_bound_100 (by decide) ?_
                    refine lv_istore_n (lv' := [(2, .int (P (6 * i + j))), (5, .int (P (6 * i + j))), (0, .ref hm), (1, .int 1), (3, .int (nI i)), (4, .int (nI j))]) hx hb d_M_bound_119 rfl hl (by decide) rfl (fun ls hl => ?_)
                    refine lv_iinc (v := nI (j + 2)) (lv' := [(4, .int (nI (j + 2))), (2, .int (P (6 * i + j))), (5, .int (P (6 * i + j))), (0, .ref hm), (1, .int 1), (3, .int (nI i))]) hx hb d_M_bound_120 hl (k := 5) rfl (by first | exact nI_add _ 2 | rfl | decide) (by decide) rfl (fun ls hl => ?_)
                    refine lv_goto (tgt := 51) hx hb d_M_bound_123 (by decide) ?_
                    exact ih_51 (j + 2) (mm - 1) (P (6 * i + j)) (by omega) (by omega) (by rw [hlim] at hmm ⊢; omega) (by rw [hlim, bin_go c_11 (by have h9 := hmm; rw [hlim] at h9; exact h9) (by omega), bst_tt c95] at hB; rw [hlim]; exact hB) (by omega) _ _ _ hP hD hS (lv_sub hl [3, 4, 1, 5, 0] rfl)
          exact L_51 ((9 - 1) + 1) 1 4 fd (Nat.lt_succ_self _) (by omega) (by unfold blim; split <;> omega) (rfl) (by omega) _ _ _ hP hD hS (lv_sub hl [1, 2, 3, 4, 0] rfl)
    exact L_35 ((n - 0) + 1) 0 (P (6 * 0 + 1)) (Nat.lt_succ_self _) (by omega) (rfl) _ _ _ hP hD hS (lv_sub hl [2, 3, 1, 0] rfl)
set_option maxHeartbeats 40000000 in
set_option maxRecDepth 100000 in
/-- bound(2) -/
theorem c_M_bound2 (l : Launch) (D : va_G) (cI cB cJ : ClassId) (qQ : Nat) (hm : Nat) (a : Nat) (b : Nat) (qa : Nat) (qu : Nat) (qb : Nat) (qh : Nat) (qm : Nat) (qk : Nat) (qp : Nat) (n : Nat) (K : Nat → Int32) (P : Nat → Int32) (fu : Bool) (fa : Bool) (hn : n ≤ 3000) : ct l D cl [(cI, .int), (cB, .byte), (cJ, .long)] (amb qQ) y_M_bound w_M_bound 1 22 (0) (0) [.ref hm, .int 2] [(hm, .inr (1, [.ref a, .ref b, .ref qa, .ref qu, .ref qb, .ref qh, .ref qm])), (a, .inr (6, [.ref qk, .ref qp, .int (nI n), .int (bz fu), .int (bz fa)])), (qk, .inl (cB, 3000, .inl K)), (qp, .inl (cI, 18000, .inl P))] (fun _ : Unit => True) (fun _ : Unit => some (.int (rBound (lst n K P) 2))) (fun _ : Unit => [(hm, .inr (1, [.ref a, .ref b, .ref qa, .ref qu, .ref qb, .ref qh, .ref qm])), (a, .inr (6, [.ref qk, .ref qp, .int (nI n), .int (bz fu), .int (bz fa)])), (qk, .inl (cB, 3000, .inl K)), (qp, .inl (cI, 18000, .inl P))]) := by
  refine ct_ofW (cc := b_M_bound) (maxL := 6) (ret := (some .int)) (by decide) rfl (Nat.le_of_ble_eq_true rfl) ?_
  intro p e R s m args below meth c A Q ls hx hb hr hml hts hown hlocks hname hRf hRc hRs hRl hQ hK hP hD hS hA hM hl
  have hl : lv_has ls 6 [(0, .ref hm), (1, .int 2)] := hl
  refine lv_aload_n hx hb d_M_bound_0 rfl (lv_at hl 0 rfl) ?_
  refine va_get (D := D) (ci := 1) (v := .ref a) (C := R_M) (T := T_M) (N := 7) hx hb hts (ui_M _) hown hK hP 0 rfl rfl 0 (by decide) (hts _ (gwc gw_509)) (fun _ h9 => h9) rfl d_M_bound_1 ?_
  refine va_getN (D := D) (ci := 6) (v := .int (nI n)) (C := R_MPath) (T := T_MPath) (N := 5) hx hb hts (ui_MPath _) hown hK hP 1 rfl rfl 2 (by decide) ((amb_nw_10 hM).use rfl) (fun _ h9 => h9) rfl d_M_bound_4 ?_
  refine bz_eq (a1 := n) (tgt := 19) hx hb (by omega) d_M_bound_7 (by decide) (fun c_1 => ?_) (fun c_1 => ?_)
  · skip
    refine lv_iconst (v := 0) hx hb d_M_bound_19 (by decide) ?_
    exact ct_reti hQ hx hb hr hlocks hP hD hS () [(hm, .inr (1, [.ref a, .ref b, .ref qa, .ref qu, .ref qb, .ref qh, .ref qm])), (a, .inr (6, [.ref qk, .ref qp, .int (nI n), .int (bz fu), .int (bz fa)])), (qk, .inl (cB, 3000, .inl K)), (qp, .inl (cI, 18000, .inl P))] [0, 1, 2, 3] (by rw [rBound, if_pos (Or.inl (by rw [lst_len]; exact c_1))]) (trivial) (rfl) rfl rfl (by omega) (by omega) d_M_bound_20
  · skip
    refine lv_iload_n hx hb d_M_bound_10 rfl (lv_at hl 1 rfl) ?_
    refine lv_if_lt (tgt := 19) hx hb d_M_bound_11 (by decide) (fun c_2 => ?_) (fun c_2 => ?_)
    · exact absurd c_2 (by decide)
    refine lv_iload_n hx hb d_M_bound_14 rfl (lv_at hl 1 rfl) ?_
    refine lv_iconst (v := 3) hx hb d_M_bound_15 (by decide) ?_
    refine bn_le (a1 := 2) (b1 := 3) (tgt := 21) hx hb (by omega) (by omega) d_M_bound_16 (by decide) (fun c_3 => ?_) (fun c_3 => ?_)
    rotate_left
    · exact absurd c_3 (by decide)
    refine lv_aload_n hx hb d_M_bound_21 rfl (lv_at hl 0 rfl) ?_
    refine va_get (D := D) (ci := 1) (v := .ref a) (C := R_M) (T := T_M) (N := 7) hx hb hts (ui_M _) hown hK hP 0 rfl rfl 0 (by decide) (hts _ (gwc gw_509)) (fun _ h9 => h9) rfl d_M_bound_22 ?_
    refine lv_iconst (v := 0) hx hb d_M_bound_25 (by decide) ?_
    refine lv_iload_n hx hb d_M_bound_26 rfl (lv_at hl 1 rfl) ?_
    refine lv_iconst (v := 2) hx hb d_M_bound_27 (by decide) ?_
    refine lv_irem hx hb d_M_bound_28 (by decide) ?_
    refine tp_i (0) (by decide) ?_
    refine ct_callV (ci := 6) (q0 := 1) (As := [.int 0, .int 0]) (rest := []) (wr := [(hm, .inr (1, [.ref a, .ref b, .ref qa, .ref qu, .ref qb, .ref qh, .ref qm]))]) (n := 2) (c_MPath_get l D cI cB cJ qQ  a qk qp n K P fu fa 0 0 (by omega) (by decide)) hx hb hml hown hts (amb_ok qQ) hK hP hD hS hA hM (gi_V gw_540 gw_541 gw_542 gw_34 gw_543) rfl (by decide +kernel) ⟨by omega, by omega⟩ [1, 2, 3] [0] rfl rfl rfl rfl (by decide) rfl rfl rfl hl.1 rfl (Nat.le_of_ble_eq_true rfl) d_M_bound_29 ⟨by omega, by omega⟩ (fun u_4 H locs hok hP hD hS => ?_)
    have hP : va_P D cl [(hm, .inr (1, [.ref a, .ref b, .ref qa, .ref qu, .ref qb, .ref qh, .ref qm])), (a, .inr (6, [.ref qk, .ref qp, .int (nI n), .int (bz fu), .int (bz fa)])), (qk, .inl (cB, 3000, .inl K)), (qp, .inl (cI, 18000, .inl P))] H := hP
    have hD : va_D A [(hm, .inr (1, [.ref a, .ref b, .ref qa, .ref qu, .ref qb, .ref qh, .ref qm])), (a, .inr (6, [.ref qk, .ref qp, .int (nI n), .int (bz fu), .int (bz fa)])), (qk, .inl (cB, 3000, .inl K)), (qp, .inl (cI, 18000, .inl P))] := hD
    refine W.eq (g2 := F0 m 32 ls [.int (P (6 * 0 + 0))]) rfl ?_
    refine lv_istore_n (lv' := [(2, .int (P (6 * 0 + 0))), (0, .ref hm), (1, .int 2)]) hx hb d_M_bound_32 rfl hl (by decide) rfl (fun ls hl => ?_)
    refine lv_iconst (v := 0) hx hb d_M_bound_33 (by decide) ?_
    refine lv_istore_n (lv' := [(3, .int 0), (2, .int (P (6 * 0 + 0))), (0, .ref hm), (1, .int 2)]) hx hb d_M_bound_34 rfl hl (by decide) rfl (fun ls hl => ?_)
    have L_35 : ∀ (n_ : Nat) (i : Nat) (fd : Int32), n - i < n_ → (i ≤ n) → (fd = (lst i K P).foldl (bnd false 0) (P (6 * 0 + 0))) → ∀ (H : Heap) (locs : List Loc) (ls : Array Slot), va_P D cl [(hm, .inr (1, [.ref a, .ref b, .ref qa, .ref qu, .ref qb, .ref qh, .ref qm])), (a, .inr (6, [.ref qk, .ref qp, .int (nI n), .int (bz fu), .int (bz fa)])), (qk, .inl (cB, 3000, .inl K)), (qp, .inl (cI, 18000, .inl P))] H → va_D A [(hm, .inr (1, [.ref a, .ref b, .ref qa, .ref qu, .ref qb, .ref qh, .ref qm])), (a, .inr (6, [.ref qk, .ref qp, .int (nI n), .int (bz fu), .int (bz fa)])), (qk, .inl (cB, 3000, .inl K)), (qp, .inl (cI, 18000, .inl P))] → va_S A s.heap H locs → lv_has ls 6 [(0, .ref hm), (1, .int 2), (2, .int fd), (3, .int (nI i))] → W p l e R s m args below meth c H locs (0) (0) Q (F0 m 35 ls []) := by
      intro n_
      induction n_ with
      | zero => intro i fd hm_; exact absurd hm_ (Nat.not_lt_zero _)
      | succ n_ ih_35 =>
        intro i fd hm_ hi hF H locs ls hP hD hS hl
        refine lv_iload_n hx hb d_M_bound_35 rfl (lv_at hl 3 rfl) ?_
        refine lv_aload_n hx hb d_M_bound_36 rfl (lv_at hl 0 rfl) ?_
        refine va_get (D := D) (ci := 1) (v := .ref a) (C := R_M) (T := T_M) (N := 7) hx hb hts (ui_M _) hown hK hP 0 rfl rfl 0 (by decide) (hts _ (gwc gw_509)) (fun _ h9 => h9) rfl d_M_bound_37 ?_
        refine va_getN (D := D) (ci := 6) (v := .int (nI n)) (C := R_MPath) (T := T_MPath) (N := 5) hx hb hts (ui_MPath _) hown hK hP 1 rfl rfl 2 (by decide) ((amb_nw_10 hM).use rfl) (fun _ h9 => h9) rfl d_M_bound_40 ?_
        refine bn_ge (a1 := i) (b1 := n) (tgt := 132) hx hb (by omega) (by omega) d_M_bound_43 (by decide) (fun c_5 => ?_) (fun c_5 => ?_)
        · skip
          refine lv_iload_n hx hb d_M_bound_132 rfl (lv_at hl 2 rfl) ?_
          exact ct_reti hQ hx hb hr hlocks hP hD hS () [(hm, .inr (1, [.ref a, .ref b, .ref qa, .ref qu, .ref qb, .ref qh, .ref qm])), (a, .inr (6, [.ref qk, .ref qp, .int (nI n), .int (bz fu), .int (bz fa)])), (qk, .inl (cB, 3000, .inl K)), (qp, .inl (cI, 18000, .inl P))] [0, 1, 2, 3] (by rw [rBound_g (lo := false) (ax := 0) (by decide) (by decide) (by decide) (by decide) (show 0 < n by omega), hF, show i = n by omega]) (trivial) (rfl) rfl rfl (by omega) (by omega) d_M_bound_133
        · skip
          refine lv_iload_n hx hb d_M_bound_46 rfl (lv_at hl 1 rfl) ?_
          refine lv_iconst (v := 2) hx hb d_M_bound_47 (by decide) ?_
          refine lv_irem hx hb d_M_bound_48 (by decide) ?_
          refine tp_i (0) (by decide) ?_
          refine lv_istore (lv' := [(4, .int 0), (0, .ref hm), (1, .int 2), (2, .int fd), (3, .int (nI i))]) hx hb d_M_bound_49 hl (by decide) rfl (fun ls hl => ?_)
          have L_51 : ∀ (n_ : Nat) (j : Nat) (mm : Nat) (fe : Int32), 9 - j < n_ → (j ≤ 7) → (blim (pt K P i) ≤ j + 2 * mm) → (binF false (pt K P i) (blim (pt K P i)) mm j fe = binF false (pt K P i) (blim (pt K P i)) 4 0 fd) → (i < n) → ∀ (H : Heap) (locs : List Loc) (ls : Array Slot), va_P D cl [(hm, .inr (1, [.ref a, .ref b, .ref qa, .ref qu, .ref qb, .ref qh, .ref qm])), (a, .inr (6, [.ref qk, .ref qp, .int (nI n), .int (bz fu), .int (bz fa)])), (qk, .inl (cB, 3000, .inl K)), (qp, .inl (cI, 18000, .inl P))] H → va_D A [(hm, .inr (1, [.ref a, .ref b, .ref qa, .ref qu, .ref qb, .ref qh, .ref qm])), (a, .inr (6, [.ref qk, .ref qp, .int (nI n), .int (bz fu), .int (bz fa)])), (qk, .inl (cB, 3000, .inl K)), (qp, .inl (cI, 18000, .inl P))] → va_S A s.heap H locs → lv_has ls 6 [(0, .ref hm), (1, .int 2), (2, .int fe), (3, .int (nI i)), (4, .int (nI j))] → W p l e R s m args below meth c H locs (0) (0) Q (F0 m 51 ls []) := by
            intro n_
            induction n_ with
            | zero => intro j mm fe hm_; exact absurd hm_ (Nat.not_lt_zero _)
            | succ n_ ih_51 =>
              intro j mm fe hm_ hj hmm hB hi2 H locs ls hP hD hS hl
              refine lv_iload hx hb d_M_bound_51 (lv_at hl 4 rfl) ?_
              refine lv_aload_n hx hb d_M_bound_53 rfl (lv_at hl 0 rfl) ?_
              refine va_get (D := D) (ci := 1) (v := .ref a) (C := R_M) (T := T_M) (N := 7) hx hb hts (ui_M _) hown hK hP 0 rfl rfl 0 (by decide) (hts _ (gwc gw_509)) (fun _ h9 => h9) rfl d_M_bound_54 ?_
              refine va_getN (D := D) (ci := 6) (v := .ref qk) (C := R_MPath) (T := T_MPath) (N := 5) hx hb hts (ui_MPath _) hown hK hP 1 rfl rfl 0 (by decide) ((amb_nw_9 hM).use rfl) (fun _ h9 => h9) rfl d_M_bound_57 ?_
              refine lv_iload_n hx hb d_M_bound_60 rfl (lv_at hl 3 rfl) ?_
              refine ld_b hx hb hK hP 2 1 rfl rfl i (by omega) (by omega) d_M_bound_61 ?_
              refine lv_iconst (v := 2) hx hb d_M_bound_62 (by decide) ?_
              refine lv_icmp_ne (tgt := 71) hx hb d_M_bound_63 (by decide) (fun c_6 => ?_) (fun c_6 => ?_)
              · skip
                have hlim := blim_n (P := P) c_6
                refine lv_iconst (v := 2) hx hb d_M_bound_71 (by decide) ?_
                refine bn_ge (a1 := j) (b1 := 2) (tgt := 126) hx hb (by omega) (by omega) d_M_bound_72 (by decide) (fun c_7 => ?_) (fun c_7 => ?_)
                · skip
                  rw [hlim, bin_end c_7] at hB
                  refine lv_iinc (v := nI (i + 1)) (lv' := [(3, .int (nI (i + 1))), (0, .ref hm), (1, .int 2), (2, .int fe), (4, .int (nI j))]) hx hb d_M_bound_126 hl (k := 3) rfl (by first | exact nI_add _ 1 | rfl | decide) (by decide) rfl (fun ls hl => ?_)
                  refine lv_goto (tgt := 35) hx hb d_M_bound_129 (by decide) ?_
                  exact ih_35 (i + 1) fe (by omega) (by omega) (bnd_s hF (by rw [hlim, ← hB])) _ _ _ hP hD hS (lv_sub hl [1, 2, 3, 0] rfl)
                · skip
                  refine lv_aload_n hx hb d_M_bound_75 rfl (lv_at hl 0 rfl) ?_
                  refine va_get (D := D) (ci := 1) (v := .ref a) (C := R_M) (T := T_M) (N := 7) hx hb hts (ui_M _) hown hK hP 0 rfl rfl 0 (by decide) (hts _ (gwc gw_509)) (fun _ h9 => h9) rfl d_M_bound_76 ?_
                  refine lv_iload_n hx hb d_M_bound_79 rfl (lv_at hl 3 rfl) ?_
                  refine lv_iload hx hb d_M_bound_80 (lv_at hl 4 rfl) ?_
                  refine ct_callV (ci := 6) (q0 := 1) (As := [.int (nI i), .int (nI j)]) (rest := []) (wr := [(hm, .inr (1, [.ref a, .ref b, .ref qa, .ref qu, .ref qb, .ref qh, .ref qm]))]) (n := 2) (c_MPath_get l D cI cB cJ qQ  a qk qp n K P fu fa i j (by omega) (by omega)) hx hb hml hown hts (amb_ok qQ) hK hP hD hS hA hM (gi_V gw_540 gw_541 gw_542 gw_34 gw_543) rfl (by decide +kernel) ⟨by omega, by omega⟩ [1, 2, 3] [0] rfl rfl rfl rfl (by decide) rfl rfl rfl hl.1 rfl (Nat.le_of_ble_eq_true rfl) d_M_bound_82 ⟨by omega, by omega⟩ (fun u_8 H locs hok hP hD hS => ?_)
                  have hP : va_P D cl [(hm, .inr (1, [.ref a, .ref b, .ref qa, .ref qu, .ref qb, .ref qh, .ref qm])), (a, .inr (6, [.ref qk, .ref qp, .int (nI n), .int (bz fu), .int (bz fa)])), (qk, .inl (cB, 3000, .inl K)), (qp, .inl (cI, 18000, .inl P))] H := hP
                  have hD : va_D A [(hm, .inr (1, [.ref a, .ref b, .ref qa, .ref qu, .ref qb, .ref qh, .ref qm])), (a, .inr (6, [.ref qk, .ref qp, .int (nI n), .int (bz fu), .int (bz fa)])), (qk, .inl (cB, 3000, .inl K)), (qp, .inl (cI, 18000, .inl P))] := hD
                  refine W.eq (g2 := F0 m 85 ls [.int (P (6 * i + j))]) rfl ?_
                  refine lv_istore (lv' := [(5, .int (P (6 * i + j))), (0, .ref hm), (1, .int 2), (2, .int fe), (3, .int (nI i)), (4, .int (nI j))]) hx hb d_M_bound_85 hl (by decide) rfl (fun ls hl => ?_)
                  refine lv_iload_n hx hb d_M_bound_87 rfl (lv_at hl 2 rfl) ?_
                  refine lv_iconst (v := 2) hx hb d_M_bound_88 (by decide) ?_
                  refine bn_ge (a1 := 2) (b1 := 2) (tgt := 107) hx hb (by omega) (by omega) d_M_bound_89 (by decide) (fun c_9 => ?_) (fun c_9 => ?_)
                  rotate_left
                  · exact absurd c_9 (by decide)
                  refine lv_iload hx hb d_M_bound_107 (lv_at hl 0 rfl) ?_
                  refine lv_iload_n hx hb d_M_bound_109 rfl (lv_at hl 3 rfl) ?_
                  refine lv_icmp_le (tgt := 118) hx hb d_M_bound_110 (by decide) (fun c_10 => ?_) (fun c_10 => ?_)
                  · skip
                    have c110 := Int32.not_lt.mpr c_10
                    refine lv_iload_n hx hb d_M_bound_118 rfl (lv_at hl 3 rfl) ?_
                    refine lv_istore_n (lv' := [(2, .int fe), (5, .int (P (6 * i + j))), (0, .ref hm), (1, .int 2), (3, .int (nI i)), (4, .int (nI j))]) hx hb d_M_bound_119 rfl hl (by decide) rfl (fun ls hl => ?_)
                    refine lv_iinc (v := nI (j + 2)) (lv' := [(4, .int (nI (j + 2))), (2, .int fe), (5, .int (P (6 * i + j))), (0, .ref hm), (1, .int 2), (3, .int (nI i))]) hx hb d_M_bound_120 hl (k := 5) rfl (by first | exact nI_add _ 2 | rfl | decide) (by decide) rfl (fun ls hl => ?_)
                    refine lv_goto (tgt := 51) hx hb d_M_bound_123 (by decide) ?_
                    exact ih_51 (j + 2) (mm - 1) fe (by omega) (by omega) (by rw [hlim] at hmm ⊢; omega) (by rw [hlim, bin_go c_7 (by have h9 := hmm; rw [hlim] at h9; exact h9) (by omega), bst_ff c110] at hB; rw [hlim]; exact hB) (by omega) _ _ _ hP hD hS (lv_sub hl [3, 4, 1, 5, 0] rfl)
                  · skip
                    have c110 := Int32.not_le.mp c_10
                    refine lv_iload hx hb d_M_bound_113 (lv_at hl 0 rfl) ?_
                    refine lv_goto (tgt := 119) hx hb d_M_bound_115 (by decide) ?_
                    refine lv_istore_n (lv' := [(2, .int (P (6 * i + j))), (5, .int (P (6 * i + j))), (0, .ref hm), (1, .int 2), (3, .int (nI i)), (4, .int (nI j))]) hx hb d_M_bound_119 rfl hl (by decide) rfl (fun ls hl => ?_)
                    refine lv_iinc (v := nI (j + 2)) (lv' := [(4, .int (nI (j + 2))), (2, .int (P (6 * i + j))), (5, .int (P (6 * i + j))), (0, .ref hm), (1, .int 2), (3, .int (nI i))]) hx hb d_M_bound_120 hl (k := 5) rfl (by first | exact nI_add _ 2 | rfl | decide) (by decide) rfl (fun ls hl => ?_)
                    refine lv_goto (tgt := 51) hx hb d_M_bound_123 (by decide) ?_
                    exact ih_51 (j + 2) (mm - 1) (P (6 * i + j)) (by omega) (by omega) (by rw [hlim] at hmm ⊢; omega) (by rw [hlim, bin_go c_7 (by have h9 := hmm; rw [hlim] at h9; exact h9) (by omega), bst_ft c110] at hB; rw [hlim]; exact hB) (by omega) _ _ _ hP hD hS (lv_sub hl [3, 4, 1, 5, 0] rfl)
              · skip
                have hlim := blim_y (P := P) c_6
                refine lv_bipush (v := 6) hx hb d_M_bound_66 (by decide) ?_
                refine lv_goto (tgt := 72) hx hb d_M_bound_68 (by decide) ?_
                refine bn_ge (a1 := j) (b1 := 6) (tgt := 126) hx hb (by omega) (by omega) d_M_bound_72 (by decide) (fun c_11 => ?_) (fun c_11 => ?_)
                · skip
                  rw [hlim, bin_end c_11] at hB
                  refine lv_iinc (v := nI (i + 1)) (lv' := [(3, .int (nI (i + 1))), (0, .ref hm), (1, .int 2), (2, .int fe), (4, .int (nI j))]) hx hb d_M_bound_126 hl (k := 3) rfl (by first | exact nI_add _ 1 | rfl | decide) (by decide) rfl (fun ls hl => ?_)
                  refine lv_goto (tgt := 35) hx hb d_M_bound_129 (by decide) ?_
                  exact ih_35 (i + 1) fe (by omega) (by omega) (bnd_s hF (by rw [hlim, ← hB])) _ _ _ hP hD hS (lv_sub hl [1, 2, 3, 0] rfl)
                · skip
                  refine lv_aload_n hx hb d_M_bound_75 rfl (lv_at hl 0 rfl) ?_
                  refine va_get (D := D) (ci := 1) (v := .ref a) (C := R_M) (T := T_M) (N := 7) hx hb hts (ui_M _) hown hK hP 0 rfl rfl 0 (by decide) (hts _ (gwc gw_509)) (fun _ h9 => h9) rfl d_M_bound_76 ?_
                  refine lv_iload_n hx hb d_M_bound_79 rfl (lv_at hl 3 rfl) ?_
                  refine lv_iload hx hb d_M_bound_80 (lv_at hl 4 rfl) ?_
                  refine ct_callV (ci := 6) (q0 := 1) (As := [.int (nI i), .int (nI j)]) (rest := []) (wr := [(hm, .inr (1, [.ref a, .ref b, .ref qa, .ref qu, .ref qb, .ref qh, .ref qm]))]) (n := 2) (c_MPath_get l D cI cB cJ qQ  a qk qp n K P fu fa i j (by omega) (by omega)) hx hb hml hown hts (amb_ok qQ) hK hP hD hS hA hM (gi_V gw_540 gw_541 gw_542 gw_34 gw_543) rfl (by decide +kernel) ⟨by omega, by omega⟩ [1, 2, 3] [0] rfl rfl rfl rfl (by decide) rfl rfl rfl hl.1 rfl (Nat.le_of_ble_eq_true rfl) d_M_bound_82 ⟨by omega, by omega⟩ (fun u_12 H locs hok hP hD hS => ?_)
                  have hP : va_P D cl [(hm, .inr (1, [.ref a, .ref b, .ref qa, .ref qu, .ref qb, .ref qh, .ref qm])), (a, .inr (6, [.ref qk, .ref qp, .int (nI n), .int (bz fu), .int (bz fa)])), (qk, .inl (cB, 3000, .inl K)), (qp, .inl (cI, 18000, .inl P))] H := hP
                  have hD : va_D A [(hm, .inr (1, [.ref a, .ref b, .ref qa, .ref qu, .ref qb, .ref qh, .ref qm])), (a, .inr (6, [.ref qk, .ref qp, .int (nI n), .int (bz fu), .int (bz fa)])), (qk, .inl (cB, 3000, .inl K)), (qp, .inl (cI, 18000, .inl P))] := hD
                  refine W.eq (g2 := F0 m 85 ls [.int (P (6 * i + j))]) rfl ?_
                  refine lv_istore (lv' := [(5, .int (P (6 * i + j))), (0, .ref hm), (1, .int 2), (2, .int fe), (3, .int (nI i)), (4, .int (nI j))]) hx hb d_M_bound_85 hl (by decide) rfl (fun ls hl => ?_)
                  refine lv_iload_n hx hb d_M_bound_87 rfl (lv_at hl 2 rfl) ?_
                  refine lv_iconst (v := 2) hx hb d_M_bound_88 (by decide) ?_
                  refine bn_ge (a1 := 2) (b1 := 2) (tgt := 107) hx hb (by omega) (by omega) d_M_bound_89 (by decide) (fun c_13 => ?_) (fun c_13 => ?_)
                  rotate_left
                  · exact absurd c_13 (by decide)
                  refine lv_iload hx hb d_M_bound_107 (lv_at hl 0 rfl) ?_
                  refine lv_iload_n hx hb d_M_bound_109 rfl (lv_at hl 3 rfl) ?_
                  refine lv_icmp_le (tgt := 118) hx hb d_M_bound_110 (by decide) (fun c_14 => ?_) (fun c_14 => ?_)
                  · skip
                    have c110 := Int32.not_lt.mpr c_14
                    refine lv_iload_n hx hb d_M_bound_118 rfl (lv_at hl 3 rfl) ?_
                    refine lv_istore_n (lv' := [(2, .int fe), (5, .int (P (6 * i + j))), (0, .ref hm), (1, .int 2), (3, .int (nI i)), (4, .int (nI j))]) hx hb d_M_bound_119 rfl hl (by decide) rfl (fun ls hl => ?_)
                    refine lv_iinc (v := nI (j + 2)) (lv' := [(4, .int (nI (j + 2))), (2, .int fe), (5, .int (P (6 * i + j))), (0, .ref hm), (1, .int 2), (3, .int (nI i))]) hx hb d_M_bound_120 hl (k := 5) rfl (by first | exact nI_add _ 2 | rfl | decide) (by decide) rfl (fun ls hl => ?_)
                    refine lv_goto (tgt := 51) hx hb d_M_bound_123 (by decide) ?_
                    exact ih_51 (j + 2) (mm - 1) fe (by omega) (by omega) (by rw [hlim] at hmm ⊢; omega) (by rw [hlim, bin_go c_11 (by have h9 := hmm; rw [hlim] at h9; exact h9) (by omega), bst_ff c110] at hB; rw [hlim]; exact hB) (by omega) _ _ _ hP hD hS (lv_sub hl [3, 4, 1, 5, 0] rfl)
                  · skip
                    have c110 := Int32.not_le.mp c_14
                    refine lv_iload hx hb d_M_bound_113 (lv_at hl 0 rfl) ?_
                    refine lv_goto (tgt := 119) hx hb d_M_bound_115 (by decide) ?_
                    refine lv_istore_n (lv' := [(2, .int (P (6 * i + j))), (5, .int (P (6 * i + j))), (0, .ref hm), (1, .int 2), (3, .int (nI i)), (4, .int (nI j))]) hx hb d_M_bound_119 rfl hl (by decide) rfl (fun ls hl => ?_)
                    refine lv_iinc (v := nI (j + 2)) (lv' := [(4, .int (nI (j + 2))), (2, .int (P (6 * i + j))), (5, .int (P (6 * i + j))), (0, .ref hm), (1, .int 2), (3, .int (nI i))]) hx hb d_M_bound_120 hl (k := 5) rfl (by first | exact nI_add _ 2 | rfl | decide) (by decide) rfl (fun ls hl => ?_)
                    refine lv_goto (tgt := 51) hx hb d_M_bound_123 (by decide) ?_
                    exact ih_51 (j + 2) (mm - 1) (P (6 * i + j)) (by omega) (by omega) (by rw [hlim] at hmm ⊢; omega) (by rw [hlim, bin_go c_11 (by have h9 := hmm; rw [hlim] at h9; exact h9) (by omega), bst_ft c110] at hB; rw [hlim]; exact hB) (by omega) _ _ _ hP hD hS (lv_sub hl [3, 4, 1, 5, 0] rfl)
          exact L_51 ((9 - 0) + 1) 0 4 fd (Nat.lt_succ_self _) (by omega) (by unfold blim; split <;> omega) (rfl) (by omega) _ _ _ hP hD hS (lv_sub hl [1, 2, 3, 4, 0] rfl)
    exact L_35 ((n - 0) + 1) 0 (P (6 * 0 + 0)) (Nat.lt_succ_self _) (by omega) (rfl) _ _ _ hP hD hS (lv_sub hl [2, 3, 1, 0] rfl)
set_option maxHeartbeats 40000000 in
set_option maxRecDepth 100000 in
/-- bound(3) -/
theorem c_M_bound3 (l : Launch) (D : va_G) (cI cB cJ : ClassId) (qQ : Nat) (hm : Nat) (a : Nat) (b : Nat) (qa : Nat) (qu : Nat) (qb : Nat) (qh : Nat) (qm : Nat) (qk : Nat) (qp : Nat) (n : Nat) (K : Nat → Int32) (P : Nat → Int32) (fu : Bool) (fa : Bool) (hn : n ≤ 3000) : ct l D cl [(cI, .int), (cB, .byte), (cJ, .long)] (amb qQ) y_M_bound w_M_bound 1 22 (0) (0) [.ref hm, .int 3] [(hm, .inr (1, [.ref a, .ref b, .ref qa, .ref qu, .ref qb, .ref qh, .ref qm])), (a, .inr (6, [.ref qk, .ref qp, .int (nI n), .int (bz fu), .int (bz fa)])), (qk, .inl (cB, 3000, .inl K)), (qp, .inl (cI, 18000, .inl P))] (fun _ : Unit => True) (fun _ : Unit => some (.int (rBound (lst n K P) 3))) (fun _ : Unit => [(hm, .inr (1, [.ref a, .ref b, .ref qa, .ref qu, .ref qb, .ref qh, .ref qm])), (a, .inr (6, [.ref qk, .ref qp, .int (nI n), .int (bz fu), .int (bz fa)])), (qk, .inl (cB, 3000, .inl K)), (qp, .inl (cI, 18000, .inl P))]) := by
  refine ct_ofW (cc := b_M_bound) (maxL := 6) (ret := (some .int)) (by decide) rfl (Nat.le_of_ble_eq_true rfl) ?_
  intro p e R s m args below meth c A Q ls hx hb hr hml hts hown hlocks hname hRf hRc hRs hRl hQ hK hP hD hS hA hM hl
  have hl : lv_has ls 6 [(0, .ref hm), (1, .int 3)] := hl
  refine lv_aload_n hx hb d_M_bound_0 rfl (lv_at hl 0 rfl) ?_
  refine va_get (D := D) (ci := 1) (v := .ref a) (C := R_M) (T := T_M) (N := 7) hx hb hts (ui_M _) hown hK hP 0 rfl rfl 0 (by decide) (hts _ (gwc gw_509)) (fun _ h9 => h9) rfl d_M_bound_1 ?_
  refine va_getN (D := D) (ci := 6) (v := .int (nI n)) (C := R_MPath) (T := T_MPath) (N := 5) hx hb hts (ui_MPath _) hown hK hP 1 rfl rfl 2 (by decide) ((amb_nw_10 hM).use rfl) (fun _ h9 => h9) rfl d_M_bound_4 ?_
  refine bz_eq (a1 := n) (tgt := 19) hx hb (by omega) d_M_bound_7 (by decide) (fun c_1 => ?_) (fun c_1 => ?_)
  · skip
    refine lv_iconst (v := 0) hx hb d_M_bound_19 (by decide) ?_
    exact ct_reti hQ hx hb hr hlocks hP hD hS () [(hm, .inr (1, [.ref a, .ref b, .ref qa, .ref qu, .ref qb, .ref qh, .ref qm])), (a, .inr (6, [.ref qk, .ref qp, .int (nI n), .int (bz fu), .int (bz fa)])), (qk, .inl (cB, 3000, .inl K)), (qp, .inl (cI, 18000, .inl P))] [0, 1, 2, 3] (by rw [rBound, if_pos (Or.inl (by rw [lst_len]; exact c_1))]) (trivial) (rfl) rfl rfl (by omega) (by omega) d_M_bound_20
  · skip
    refine lv_iload_n hx hb d_M_bound_10 rfl (lv_at hl 1 rfl) ?_
    refine lv_if_lt (tgt := 19) hx hb d_M_bound_11 (by decide) (fun c_2 => ?_) (fun c_2 => ?_)
    · exact absurd c_2 (by decide)
    refine lv_iload_n hx hb d_M_bound_14 rfl (lv_at hl 1 rfl) ?_
    refine lv_iconst (v := 3) hx hb d_M_bound_15 (by decide) ?_
    refine bn_le (a1 := 3) (b1 := 3) (tgt := 21) hx hb (by omega) (by omega) d_M_bound_16 (by decide) (fun c_3 => ?_) (fun c_3 => ?_)
    rotate_left
    · exact absurd c_3 (by decide)
    refine lv_aload_n hx hb d_M_bound_21 rfl (lv_at hl 0 rfl) ?_
    refine va_get (D := D) (ci := 1) (v := .ref a) (C := R_M) (T := T_M) (N := 7) hx hb hts (ui_M _) hown hK hP 0 rfl rfl 0 (by decide) (hts _ (gwc gw_509)) (fun _ h9 => h9) rfl d_M_bound_22 ?_
    refine lv_iconst (v := 0) hx hb d_M_bound_25 (by decide) ?_
    refine lv_iload_n hx hb d_M_bound_26 rfl (lv_at hl 1 rfl) ?_
    refine lv_iconst (v := 2) hx hb d_M_bound_27 (by decide) ?_
    refine lv_irem hx hb d_M_bound_28 (by decide) ?_
    refine tp_i (1) (by decide) ?_
    refine ct_callV (ci := 6) (q0 := 1) (As := [.int 0, .int 1]) (rest := []) (wr := [(hm, .inr (1, [.ref a, .ref b, .ref qa, .ref qu, .ref qb, .ref qh, .ref qm]))]) (n := 2) (c_MPath_get l D cI cB cJ qQ  a qk qp n K P fu fa 0 1 (by omega) (by decide)) hx hb hml hown hts (amb_ok qQ) hK hP hD hS hA hM (gi_V gw_540 gw_541 gw_542 gw_34 gw_543) rfl (by decide +kernel) ⟨by omega, by omega⟩ [1, 2, 3] [0] rfl rfl rfl rfl (by decide) rfl rfl rfl hl.1 rfl (Nat.le_of_ble_eq_true rfl) d_M_bound_29 ⟨by omega, by omega⟩ (fun u_4 H locs hok hP hD hS => ?_)
    have hP : va_P D cl [(hm, .inr (1, [.ref a, .ref b, .ref qa, .ref qu, .ref qb, .ref qh, .ref qm])), (a, .inr (6, [.ref qk, .ref qp, .int (nI n), .int (bz fu), .int (bz fa)])), (qk, .inl (cB, 3000, .inl K)), (qp, .inl (cI, 18000, .inl P))] H := hP
    have hD : va_D A [(hm, .inr (1, [.ref a, .ref b, .ref qa, .ref qu, .ref qb, .ref qh, .ref qm])), (a, .inr (6, [.ref qk, .ref qp, .int (nI n), .int (bz fu), .int (bz fa)])), (qk, .inl (cB, 3000, .inl K)), (qp, .inl (cI, 18000, .inl P))] := hD
    refine W.eq (g2 := F0 m 32 ls [.int (P (6 * 0 + 1))]) rfl ?_
    refine lv_istore_n (lv' := [(2, .int (P (6 * 0 + 1))), (0, .ref hm), (1, .int 3)]) hx hb d_M_bound_32 rfl hl (by decide) rfl (fun ls hl => ?_)
    refine lv_iconst (v := 0) hx hb d_M_bound_33 (by decide) ?_
    refine lv_istore_n (lv' := [(3, .int 0), (2, .int (P (6 * 0 + 1))), (0, .ref hm), (1, .int 3)]) hx hb d_M_bound_34 rfl hl (by decide) rfl (fun ls hl => ?_)
    have L_35 : ∀ (n_ : Nat) (i : Nat) (fd : Int32), n - i < n_ → (i ≤ n) → (fd = (lst i K P).foldl (bnd false 1) (P (6 * 0 + 1))) → ∀ (H : Heap) (locs : List Loc) (ls : Array Slot), va_P D cl [(hm, .inr (1, [.ref a, .ref b, .ref qa, .ref qu, .ref qb, .ref qh, .ref qm])), (a, .inr (6, [.ref qk, .ref qp, .int (nI n), .int (bz fu), .int (bz fa)])), (qk, .inl (cB, 3000, .inl K)), (qp, .inl (cI, 18000, .inl P))] H → va_D A [(hm, .inr (1, [.ref a, .ref b, .ref qa, .ref qu, .ref qb, .ref qh, .ref qm])), (a, .inr (6, [.ref qk, .ref qp, .int (nI n), .int (bz fu), .int (bz fa)])), (qk, .inl (cB, 3000, .inl K)), (qp, .inl (cI, 18000, .inl P))] → va_S A s.heap H locs → lv_has ls 6 [(0, .ref hm), (1, .int 3), (2, .int fd), (3, .int (nI i))] → W p l e R s m args below meth c H locs (0) (0) Q (F0 m 35 ls []) := by
      intro n_
      induction n_ with
      | zero => intro i fd hm_; exact absurd hm_ (Nat.not_lt_zero _)
      | succ n_ ih_35 =>
        intro i fd hm_ hi hF H locs ls hP hD hS hl
        refine lv_iload_n hx hb d_M_bound_35 rfl (lv_at hl 3 rfl) ?_
        refine lv_aload_n hx hb d_M_bound_36 rfl (lv_at hl 0 rfl) ?_
        refine va_get (D := D) (ci := 1) (v := .ref a) (C := R_M) (T := T_M) (N := 7) hx hb hts (ui_M _) hown hK hP 0 rfl rfl 0 (by decide) (hts _ (gwc gw_509)) (fun _ h9 => h9) rfl d_M_bound_37 ?_
        refine va_getN (D := D) (ci := 6) (v := .int (nI n)) (C := R_MPath) (T := T_MPath) (N := 5) hx hb hts (ui_MPath _) hown hK hP 1 rfl rfl 2 (by decide) ((amb_nw_10 hM).use rfl) (fun _ h9 => h9) rfl d_M_bound_40 ?_
        refine bn_ge (a1 := i) (b1 := n) (tgt := 132) hx hb (by omega) (by omega) d_M_bound_43 (by decide) (fun c_5 => ?_) (fun c_5 => ?_)
        · skip
          refine lv_iload_n hx hb d_M_bound_132 rfl (lv_at hl 2 rfl) ?_
          exact ct_reti hQ hx hb hr hlocks hP hD hS () [(hm, .inr (1, [.ref a, .ref b, .ref qa, .ref qu, .ref qb, .ref qh, .ref qm])), (a, .inr (6, [.ref qk, .ref qp, .int (nI n), .int (bz fu), .int (bz fa)])), (qk, .inl (cB, 3000, .inl K)), (qp, .inl (cI, 18000, .inl P))] [0, 1, 2, 3] (by rw [rBound_g (lo := false) (ax := 1) (by decide) (by decide) (by decide) (by decide) (show 0 < n by omega), hF, show i = n by omega]) (trivial) (rfl) rfl rfl (by omega) (by omega) d_M_bound_133
        · skip
          refine lv_iload_n hx hb d_M_bound_46 rfl (lv_at hl 1 rfl) ?_
          refine lv_iconst (v := 2) hx hb d_M_bound_47 (by decide) ?_
          refine lv_irem hx hb d_M_bound_48 (by decide) ?_
          refine tp_i (1) (by decide) ?_
          refine lv_istore (lv' := [(4, .int 1), (0, .ref hm), (1, .int 3), (2, .int fd), (3, .int (nI i))]) hx hb d_M_bound_49 hl (by decide) rfl (fun ls hl => ?_)
          have L_51 : ∀ (n_ : Nat) (j : Nat) (mm : Nat) (fe : Int32), 9 - j < n_ → (j ≤ 7) → (blim (pt K P i) ≤ j + 2 * mm) → (binF false (pt K P i) (blim (pt K P i)) mm j fe = binF false (pt K P i) (blim (pt K P i)) 4 1 fd) → (i < n) → ∀ (H : Heap) (locs : List Loc) (ls : Array Slot), va_P D cl [(hm, .inr (1, [.ref a, .ref b, .ref qa, .ref qu, .ref qb, .ref qh, .ref qm])), (a, .inr (6, [.ref qk, .ref qp, .int (nI n), .int (bz fu), .int (bz fa)])), (qk, .inl (cB, 3000, .inl K)), (qp, .inl (cI, 18000, .inl P))] H → va_D A [(hm, .inr (1, [.ref a, .ref b, .ref qa, .ref qu, .ref qb, .ref qh, .ref qm])), (a, .inr (6, [.ref qk, .ref qp, .int (nI n), .int (bz fu), .int (bz fa)])), (qk, .inl (cB, 3000, .inl K)), (qp, .inl (cI, 18000, .inl P))] → va_S A s.heap H locs → lv_has ls 6 [(0, .ref hm), (1, .int 3), (2, .int fe), (3, .int (nI i)), (4, .int (nI j))] → W p l e R s m args below meth c H locs (0) (0) Q (F0 m 51 ls []) := by
            intro n_
            induction n_ with
            | zero => intro j mm fe hm_; exact absurd hm_ (Nat.not_lt_zero _)
            | succ n_ ih_51 =>
              intro j mm fe hm_ hj hmm hB hi2 H locs ls hP hD hS hl
              refine lv_iload hx hb d_M_bound_51 (lv_at hl 4 rfl) ?_
              refine lv_aload_n hx hb d_M_bound_53 rfl (lv_at hl 0 rfl) ?_
              refine va_get (D := D) (ci := 1) (v := .ref a) (C := R_M) (T := T_M) (N := 7) hx hb hts (ui_M _) hown hK hP 0 rfl rfl 0 (by decide) (hts _ (gwc gw_509)) (fun _ h9 => h9) rfl d_M_bound_54 ?_
              refine va_getN (D := D) (ci := 6) (v := .ref qk) (C := R_MPath) (T := T_MPath) (N := 5) hx hb hts (ui_MPath _) hown hK hP 1 rfl rfl 0 (by decide) ((amb_nw_9 hM).use rfl) (fun _ h9 => h9) rfl d_M_bound_57 ?_
              refine lv_iload_n hx hb d_M_bound_60 rfl (lv_at hl 3 rfl) ?_
              refine ld_b hx hb hK hP 2 1 rfl rfl i (by omega) (by omega) d_M_bound_61 ?_
              refine lv_iconst (v := 2) hx hb d_M_bound_62 (by decide) ?_
              refine lv_icmp_ne (tgt := 71) hx hb d_M_bound_63 (by decide) (fun c_6 => ?_) (fun c_6 => ?_)
              · skip
                have hlim := blim_n (P := P) c_6
                refine lv_iconst (v := 2) hx hb d_M_bound_71 (by decide) ?_
                refine bn_ge (a1 := j) (b1 := 2) (tgt := 126) hx hb (by omega) (by omega) d_M_bound_72 (by decide) (fun c_7 => ?_) (fun c_7 => ?_)
                · skip
                  rw [hlim, bin_end c_7] at hB
                  refine lv_iinc (v := nI (i + 1)) (lv' := [(3, .int (nI (i + 1))), (0, .ref hm), (1, .int 3), (2, .int fe), (4, .int (nI j))]) hx hb d_M_bound_126 hl (k := 3) rfl (by first | exact nI_add _ 1 | rfl | decide) (by decide) rfl (fun ls hl => ?_)
                  refine lv_goto (tgt := 35) hx hb d_M_bound_129 (by decide) ?_
                  exact ih_35 (i + 1) fe (by omega) (by omega) (bnd_s hF (by rw [hlim, ← hB])) _ _ _ hP hD hS (lv_sub hl [1, 2, 3, 0] rfl)
                · skip
                  refine lv_aload_n hx hb d_M_bound_75 rfl (lv_at hl 0 rfl) ?_
                  refine va_get (D := D) (ci := 1) (v := .ref a) (C := R_M) (T := T_M) (N := 7) hx hb hts (ui_M _) hown hK hP 0 rfl rfl 0 (by decide) (hts _ (gwc gw_509)) (fun _ h9 => h9) rfl d_M_bound_76 ?_
                  refine lv_iload_n hx hb d_M_bound_79 rfl (lv_at hl 3 rfl) ?_
                  refine lv_iload hx hb d_M_bound_80 (lv_at hl 4 rfl) ?_
                  refine ct_callV (ci := 6) (q0 := 1) (As := [.int (nI i), .int (nI j)]) (rest := []) (wr := [(hm, .inr (1, [.ref a, .ref b, .ref qa, .ref qu, .ref qb, .ref qh, .ref qm]))]) (n := 2) (c_MPath_get l D cI cB cJ qQ  a qk qp n K P fu fa i j (by omega) (by omega)) hx hb hml hown hts (amb_ok qQ) hK hP hD hS hA hM (gi_V gw_540 gw_541 gw_542 gw_34 gw_543) rfl (by decide +kernel) ⟨by omega, by omega⟩ [1, 2, 3] [0] rfl rfl rfl rfl (by decide) rfl rfl rfl hl.1 rfl (Nat.le_of_ble_eq_true rfl) d_M_bound_82 ⟨by omega, by omega⟩ (fun u_8 H locs hok hP hD hS => ?_)
                  have hP : va_P D cl [(hm, .inr (1, [.ref a, .ref b, .ref qa, .ref qu, .ref qb, .ref qh, .ref qm])), (a, .inr (6, [.ref qk, .ref qp, .int (nI n), .int (bz fu), .int (bz fa)])), (qk, .inl (cB, 3000, .inl K)), (qp, .inl (cI, 18000, .inl P))] H := hP
                  have hD : va_D A [(hm, .inr (1, [.ref a, .ref b, .ref qa, .ref qu, .ref qb, .ref qh, .ref qm])), (a, .inr (6, [.ref qk, .ref qp, .int (nI n), .int (bz fu), .int (bz fa)])), (qk, .inl (cB, 3000, .inl K)), (qp, .inl (cI, 18000, .inl P))] := hD
                  refine W.eq (g2 := F0 m 85 ls [.int (P (6 * i + j))]) rfl ?_
                  refine lv_istore (lv' := [(5, .int (P (6 * i + j))), (0, .ref hm), (1, .int 3), (2, .int fe), (3, .int (nI i)), (4, .int (nI j))]) hx hb d_M_bound_85 hl (by decide) rfl (fun ls hl => ?_)
                  refine lv_iload_n hx hb d_M_bound_87 rfl (lv_at hl 2 rfl) ?_
                  refine lv_iconst (v := 2) hx hb d_M_bound_88 (by decide) ?_
                  refine bn_ge (a1 := 3) (b1 := 2) (tgt := 107) hx hb (by omega) (by omega) d_M_bound_89 (by decide) (fun c_9 => ?_) (fun c_9 => ?_)
                  rotate_left
                  · exact absurd c_9 (by decide)
                  refine lv_iload hx hb d_M_bound_107 (lv_at hl 0 rfl) ?_
                  refine lv_iload_n hx hb d_M_bound_109 rfl (lv_at hl 3 rfl) ?_
                  refine lv_icmp_le (tgt := 118) hx hb d_M_bound_110 (by decide) (fun c_10 => ?_) (fun c_10 => ?_)
                  · skip
                    have c110 := Int32.not_lt.mpr c_10
                    refine lv_iload_n hx hb d_M_bound_118 rfl (lv_at hl 3 rfl) ?_
                    refine lv_istore_n (lv' := [(2, .int fe), (5, .int (P (6 * i + j))), (0, .ref hm), (1, .int 3), (3, .int (nI i)), (4, .int (nI j))]) hx hb d_M_bound_119 rfl hl (by decide) rfl (fun ls hl => ?_)
                    refine lv_iinc (v := nI (j + 2)) (lv' := [(4, .int (nI (j + 2))), (2, .int fe), (5, .int (P (6 * i + j))), (0, .ref hm), (1, .int 3), (3, .int (nI i))]) hx hb d_M_bound_120 hl (k := 5) rfl (by first | exact nI_add _ 2 | rfl | decide) (by decide) rfl (fun ls hl => ?_)
                    refine lv_goto (tgt := 51) hx hb d_M_bound_123 (by decide) ?_
                    exact ih_51 (j + 2) (mm - 1) fe (by omega) (by omega) (by rw [hlim] at hmm ⊢; omega) (by rw [hlim, bin_go c_7 (by have h9 := hmm; rw [hlim] at h9; exact h9) (by omega), bst_ff c110] at hB; rw [hlim]; exact hB) (by omega) _ _ _ hP hD hS (lv_sub hl [3, 4, 1, 5, 0] rfl)
                  · skip
                    have c110 := Int32.not_le.mp c_10
                    refine lv_iload hx hb d_M_bound_113 (lv_at hl 0 rfl) ?_
                    refine lv_goto (tgt := 119) hx hb d_M_bound_115 (by decide) ?_
                    refine lv_istore_n (lv' := [(2, .int (P (6 * i + j))), (5, .int (P (6 * i + j))), (0, .ref hm), (1, .int 3), (3, .int (nI i)), (4, .int (nI j))]) hx hb d_M_bound_119 rfl hl (by decide) rfl (fun ls hl => ?_)
                    refine lv_iinc (v := nI (j + 2)) (lv' := [(4, .int (nI (j + 2))), (2, .int (P (6 * i + j))), (5, .int (P (6 * i + j))), (0, .ref hm), (1, .int 3), (3, .int (nI i))]) hx hb d_M_bound_120 hl (k := 5) rfl (by first | exact nI_add _ 2 | rfl | decide) (by decide) rfl (fun ls hl => ?_)
                    refine lv_goto (tgt := 51) hx hb d_M_bound_123 (by decide) ?_
                    exact ih_51 (j + 2) (mm - 1) (P (6 * i + j)) (by omega) (by omega) (by rw [hlim] at hmm ⊢; omega) (by rw [hlim, bin_go c_7 (by have h9 := hmm; rw [hlim] at h9; exact h9) (by omega), bst_ft c110] at hB; rw [hlim]; exact hB) (by omega) _ _ _ hP hD hS (lv_sub hl [3, 4, 1, 5, 0] rfl)
              · skip
                have hlim := blim_y (P := P) c_6
                refine lv_bipush (v := 6) hx hb d_M_bound_66 (by decide) ?_
                refine lv_goto (tgt := 72) hx hb d_M_bound_68 (by decide) ?_
                refine bn_ge (a1 := j) (b1 := 6) (tgt := 126) hx hb (by omega) (by omega) d_M_bound_72 (by decide) (fun c_11 => ?_) (fun c_11 => ?_)
                · skip
                  rw [hlim, bin_end c_11] at hB
                  refine lv_iinc (v := nI (i + 1)) (lv' := [(3, .int (nI (i + 1))), (0, .ref hm), (1, .int 3), (2, .int fe), (4, .int (nI j))]) hx hb d_M_bound_126 hl (k := 3) rfl (by first | exact nI_add _ 1 | rfl | decide) (by decide) rfl (fun ls hl => ?_)
                  refine lv_goto (tgt := 35) hx hb d_M_bound_129 (by decide) ?_
                  exact ih_35 (i + 1) fe (by omega) (by omega) (bnd_s hF (by rw [hlim, ← hB])) _ _ _ hP hD hS (lv_sub hl [1, 2, 3, 0] rfl)
                · skip
                  refine lv_aload_n hx hb d_M_bound_75 rfl (lv_at hl 0 rfl) ?_
                  refine va_get (D := D) (ci := 1) (v := .ref a) (C := R_M) (T := T_M) (N := 7) hx hb hts (ui_M _) hown hK hP 0 rfl rfl 0 (by decide) (hts _ (gwc gw_509)) (fun _ h9 => h9) rfl d_M_bound_76 ?_
                  refine lv_iload_n hx hb d_M_bound_79 rfl (lv_at hl 3 rfl) ?_
                  refine lv_iload hx hb d_M_bound_80 (lv_at hl 4 rfl) ?_
                  refine ct_callV (ci := 6) (q0 := 1) (As := [.int (nI i), .int (nI j)]) (rest := []) (wr := [(hm, .inr (1, [.ref a, .ref b, .ref qa, .ref qu, .ref qb, .ref qh, .ref qm]))]) (n := 2) (c_MPath_get l D cI cB cJ qQ  a qk qp n K P fu fa i j (by omega) (by omega)) hx hb hml hown hts (amb_ok qQ) hK hP hD hS hA hM (gi_V gw_540 gw_541 gw_542 gw_34 gw_543) rfl (by decide +kernel) ⟨by omega, by omega⟩ [1, 2, 3] [0] rfl rfl rfl rfl (by decide) rfl rfl rfl hl.1 rfl (Nat.le_of_ble_eq_true rfl) d_M_bound_82 ⟨by omega, by omega⟩ (fun u_12 H locs hok hP hD hS => ?_)
                  have hP : va_P D cl [(hm, .inr (1, [.ref a, .ref b, .ref qa, .ref qu, .ref qb, .ref qh, .ref qm])), (a, .inr (6, [.ref qk, .ref qp, .int (nI n), .int (bz fu), .int (bz fa)])), (qk, .inl (cB, 3000, .inl K)), (qp, .inl (cI, 18000, .inl P))] H := hP
                  have hD : va_D A [(hm, .inr (1, [.ref a, .ref b, .ref qa, .ref qu, .ref qb, .ref qh, .ref qm])), (a, .inr (6, [.ref qk, .ref qp, .int (nI n), .int (bz fu), .int (bz fa)])), (qk, .inl (cB, 3000, .inl K)), (qp, .inl (cI, 18000, .inl P))] := hD
                  refine W.eq (g2 := F0 m 85 ls [.int (P (6 * i + j))]) rfl ?_
                  refine lv_istore (lv' := [(5, .int (P (6 * i + j))), (0, .ref hm), (1, .int 3), (2, .int fe), (3, .int (nI i)), (4, .int (nI j))]) hx hb d_M_bound_85 hl (by decide) rfl (fun ls hl => ?_)
                  refine lv_iload_n hx hb d_M_bound_87 rfl (lv_at hl 2 rfl) ?_
                  refine lv_iconst (v := 2) hx hb d_M_bound_88 (by decide) ?_
                  refine bn_ge (a1 := 3) (b1 := 2) (tgt := 107) hx hb (by omega) (by omega) d_M_bound_89 (by decide) (fun c_13 => ?_) (fun c_13 => ?_)
                  rotate_left
                  · exact absurd c_13 (by decide)
                  refine lv_iload hx hb d_M_bound_107 (lv_at hl 0 rfl) ?_
                  refine lv_iload_n hx hb d_M_bound_109 rfl (lv_at hl 3 rfl) ?_
                  refine lv_icmp_le (tgt := 118) hx hb d_M_bound_110 (by decide) (fun c_14 => ?_) (fun c_14 => ?_)
                  · skip
                    have c110 := Int32.not_lt.mpr c_14
                    refine lv_iload_n hx hb d_M_bound_118 rfl (lv_at hl 3 rfl) ?_
                    refine lv_istore_n (lv' := [(2, .int fe), (5, .int (P (6 * i + j))), (0, .ref hm), (1, .int 3), (3, .int (nI i)), (4, .int (nI j))]) hx hb d_M_bound_119 rfl hl (by decide) rfl (fun ls hl => ?_)
                    refine lv_iinc (v := nI (j + 2)) (lv' := [(4, .int (nI (j + 2))), (2, .int fe), (5, .int (P (6 * i + j))), (0, .ref hm), (1, .int 3), (3, .int (nI i))]) hx hb d_M_bound_120 hl (k := 5) rfl (by first | exact nI_add _ 2 | rfl | decide) (by decide) rfl (fun ls hl => ?_)
                    refine lv_goto (tgt := 51) hx hb d_M_bound_123 (by decide) ?_
                    exact ih_51 (j + 2) (mm - 1) fe (by omega) (by omega) (by rw [hlim] at hmm ⊢; omega) (by rw [hlim, bin_go c_11 (by have h9 := hmm; rw [hlim] at h9; exact h9) (by omega), bst_ff c110] at hB; rw [hlim]; exact hB) (by omega) _ _ _ hP hD hS (lv_sub hl [3, 4, 1, 5, 0] rfl)
                  · skip
                    have c110 := Int32.not_le.mp c_14
                    refine lv_iload hx hb d_M_bound_113 (lv_at hl 0 rfl) ?_
                    refine lv_goto (tgt := 119) hx hb d_M_bound_115 (by decide) ?_
                    refine lv_istore_n (lv' := [(2, .int (P (6 * i + j))), (5, .int (P (6 * i + j))), (0, .ref hm), (1, .int 3), (3, .int (nI i)), (4, .int (nI j))]) hx hb d_M_bound_119 rfl hl (by decide) rfl (fun ls hl => ?_)
                    refine lv_iinc (v := nI (j + 2)) (lv' := [(4, .int (nI (j + 2))), (2, .int (P (6 * i + j))), (5, .int (P (6 * i + j))), (0, .ref hm), (1, .int 3), (3, .int (nI i))]) hx hb d_M_bound_120 hl (k := 5) rfl (by first | exact nI_add _ 2 | rfl | decide) (by decide) rfl (fun ls hl => ?_)
                    refine lv_goto (tgt := 51) hx hb d_M_bound_123 (by decide) ?_
                    exact ih_51 (j + 2) (mm - 1) (P (6 * i + j)) (by omega) (by omega) (by rw [hlim] at hmm ⊢; omega) (by rw [hlim, bin_go c_11 (by have h9 := hmm; rw [hlim] at h9; exact h9) (by omega), bst_ft c110] at hB; rw [hlim]; exact hB) (by omega) _ _ _ hP hD hS (lv_sub hl [3, 4, 1, 5, 0] rfl)
          exact L_51 ((9 - 1) + 1) 1 4 fd (Nat.lt_succ_self _) (by omega) (by unfold blim; split <;> omega) (rfl) (by omega) _ _ _ hP hD hS (lv_sub hl [1, 2, 3, 4, 0] rfl)
    exact L_35 ((n - 0) + 1) 0 (P (6 * 0 + 1)) (Nat.lt_succ_self _) (by omega) (rfl) _ _ _ hP hD hS (lv_sub hl [2, 3, 1, 0] rfl)
set_option maxHeartbeats 4000000 in
set_option maxRecDepth 100000 in
/-- bound of another what -/
theorem c_M_boundX (l : Launch) (D : va_G) (cI cB cJ : ClassId) (qQ : Nat) (hm : Nat) (a : Nat) (b : Nat) (qa : Nat) (qu : Nat) (qb : Nat) (qh : Nat) (qm : Nat) (qk : Nat) (qp : Nat) (n : Nat) (K : Nat → Int32) (P : Nat → Int32) (fu : Bool) (fa : Bool) (wh : Int32) (hn : n ≤ 3000) (hw : wh < 0 ∨ ¬ wh ≤ 3) : ct l D cl [(cI, .int), (cB, .byte), (cJ, .long)] (amb qQ) y_M_bound w_M_bound 1 22 (0) (0) [.ref hm, .int wh] [(hm, .inr (1, [.ref a, .ref b, .ref qa, .ref qu, .ref qb, .ref qh, .ref qm])), (a, .inr (6, [.ref qk, .ref qp, .int (nI n), .int (bz fu), .int (bz fa)])), (qk, .inl (cB, 3000, .inl K)), (qp, .inl (cI, 18000, .inl P))] (fun _ : Unit => True) (fun _ : Unit => some (.int (rBound (lst n K P) wh))) (fun _ : Unit => [(hm, .inr (1, [.ref a, .ref b, .ref qa, .ref qu, .ref qb, .ref qh, .ref qm])), (a, .inr (6, [.ref qk, .ref qp, .int (nI n), .int (bz fu), .int (bz fa)])), (qk, .inl (cB, 3000, .inl K)), (qp, .inl (cI, 18000, .inl P))]) := by
  refine ct_ofW (cc := b_M_bound) (maxL := 6) (ret := (some .int)) (by decide) rfl (Nat.le_of_ble_eq_true rfl) ?_
  intro p e R s m args below meth c A Q ls hx hb hr hml hts hown hlocks hname hRf hRc hRs hRl hQ hK hP hD hS hA hM hl
  have hl : lv_has ls 6 [(0, .ref hm), (1, .int wh)] := hl
  refine lv_aload_n hx hb d_M_bound_0 rfl (lv_at hl 0 rfl) ?_
  refine va_get (D := D) (ci := 1) (v := .ref a) (C := R_M) (T := T_M) (N := 7) hx hb hts (ui_M _) hown hK hP 0 rfl rfl 0 (by decide) (hts _ (gwc gw_509)) (fun _ h9 => h9) rfl d_M_bound_1 ?_
  refine va_getN (D := D) (ci := 6) (v := .int (nI n)) (C := R_MPath) (T := T_MPath) (N := 5) hx hb hts (ui_MPath _) hown hK hP 1 rfl rfl 2 (by decide) ((amb_nw_10 hM).use rfl) (fun _ h9 => h9) rfl d_M_bound_4 ?_
  refine bz_eq (a1 := n) (tgt := 19) hx hb (by omega) d_M_bound_7 (by decide) (fun c_1 => ?_) (fun c_1 => ?_)
  · skip
    refine lv_iconst (v := 0) hx hb d_M_bound_19 (by decide) ?_
    exact ct_reti hQ hx hb hr hlocks hP hD hS () [(hm, .inr (1, [.ref a, .ref b, .ref qa, .ref qu, .ref qb, .ref qh, .ref qm])), (a, .inr (6, [.ref qk, .ref qp, .int (nI n), .int (bz fu), .int (bz fa)])), (qk, .inl (cB, 3000, .inl K)), (qp, .inl (cI, 18000, .inl P))] [0, 1, 2, 3] (by rw [rBound, if_pos (Or.inl (by rw [lst_len]; exact c_1))]) (trivial) (rfl) rfl rfl (by omega) (by omega) d_M_bound_20
  · skip
    refine lv_iload_n hx hb d_M_bound_10 rfl (lv_at hl 1 rfl) ?_
    refine lv_if_lt (tgt := 19) hx hb d_M_bound_11 (by decide) (fun c_2 => ?_) (fun c_2 => ?_)
    · skip
      refine lv_iconst (v := 0) hx hb d_M_bound_19 (by decide) ?_
      exact ct_reti hQ hx hb hr hlocks hP hD hS () [(hm, .inr (1, [.ref a, .ref b, .ref qa, .ref qu, .ref qb, .ref qh, .ref qm])), (a, .inr (6, [.ref qk, .ref qp, .int (nI n), .int (bz fu), .int (bz fa)])), (qk, .inl (cB, 3000, .inl K)), (qp, .inl (cI, 18000, .inl P))] [0, 1, 2, 3] (by rw [rBound, if_pos (Or.inr (Or.inl c_2))]) (trivial) (rfl) rfl rfl (by omega) (by omega) d_M_bound_20
    · skip
      refine lv_iload_n hx hb d_M_bound_14 rfl (lv_at hl 1 rfl) ?_
      refine lv_iconst (v := 3) hx hb d_M_bound_15 (by decide) ?_
      refine lv_icmp_le (tgt := 21) hx hb d_M_bound_16 (by decide) (fun c_3 => ?_) (fun c_3 => ?_)
      · skip
        exact hw.elim (fun q => absurd q c_2) (fun q => absurd c_3 q)
      · skip
        refine lv_iconst (v := 0) hx hb d_M_bound_19 (by decide) ?_
        exact ct_reti hQ hx hb hr hlocks hP hD hS () [(hm, .inr (1, [.ref a, .ref b, .ref qa, .ref qu, .ref qb, .ref qh, .ref qm])), (a, .inr (6, [.ref qk, .ref qp, .int (nI n), .int (bz fu), .int (bz fa)])), (qk, .inl (cB, 3000, .inl K)), (qp, .inl (cI, 18000, .inl P))] [0, 1, 2, 3] (by rw [rBound, if_pos (Or.inr (Or.inr c_3))]) (trivial) (rfl) rfl rfl (by omega) (by omega) d_M_bound_20
theorem c_M_bound (l : Launch) (D : va_G) (cI cB cJ : ClassId) (qQ : Nat) (hm : Nat) (a : Nat) (b : Nat) (qa : Nat) (qu : Nat) (qb : Nat) (qh : Nat) (qm : Nat) (qk : Nat) (qp : Nat) (n : Nat) (K : Nat → Int32) (P : Nat → Int32) (fu : Bool) (fa : Bool) (wh : Int32) (hn : n ≤ 3000) : ct l D cl [(cI, .int), (cB, .byte), (cJ, .long)] (amb qQ) y_M_bound w_M_bound 1 22 (0) (0) [.ref hm, .int wh] [(hm, .inr (1, [.ref a, .ref b, .ref qa, .ref qu, .ref qb, .ref qh, .ref qm])), (a, .inr (6, [.ref qk, .ref qp, .int (nI n), .int (bz fu), .int (bz fa)])), (qk, .inl (cB, 3000, .inl K)), (qp, .inl (cI, 18000, .inl P))] (fun _ : Unit => True) (fun _ : Unit => some (.int (rBound (lst n K P) wh))) (fun _ : Unit => [(hm, .inr (1, [.ref a, .ref b, .ref qa, .ref qu, .ref qb, .ref qh, .ref qm])), (a, .inr (6, [.ref qk, .ref qp, .int (nI n), .int (bz fu), .int (bz fa)])), (qk, .inl (cB, 3000, .inl K)), (qp, .inl (cI, 18000, .inl P))]) := by
  rcases w5 wh with rfl | rfl | rfl | rfl | hw
  · exact c_M_bound0 l D cI cB cJ qQ hm a b qa qu qb qh qm qk qp n K P fu fa hn
  · exact c_M_bound1 l D cI cB cJ qQ hm a b qa qu qb qh qm qk qp n K P fu fa hn
  · exact c_M_bound2 l D cI cB cJ qQ hm a b qa qu qb qh qm qk qp n K P fu fa hn
  · exact c_M_bound3 l D cI cB cJ qQ hm a b qa qu qb qh qm qk qp n K P fu fa hn
  · exact c_M_boundX l D cI cB cJ qQ hm a b qa qu qb qh qm qk qp n K P fu fa wh hn hw
