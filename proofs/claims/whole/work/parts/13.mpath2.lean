set_option maxHeartbeats 4000000 in
set_option maxRecDepth 100000 in
/-- copy(o): the parts of o -/
theorem c_MPath_copy (l : Launch) (D : va_G) (cI cB cJ : ClassId) (qQ : Nat) (h : Nat) (qk : Nat) (qp : Nat) (n : Nat) (K : Nat → Int32) (P : Nat → Int32) (fu : Bool) (fa : Bool) (h2 : Nat) (qk2 : Nat) (qp2 : Nat) (n2 : Nat) (K2 : Nat → Int32) (P2 : Nat → Int32) (fu2 : Bool) (fa2 : Bool) (hn : n2 ≤ 3000) (hk : ∀ i, i < n2 → kok (K2 i)) : ct l D cl [(cI, .int), (cB, .byte), (cJ, .long)] (amb qQ) y_MPath_copy w_MPath_copy 1 20 (0) (0) [.ref h, .ref h2] [(h, .inr (6, [.ref qk, .ref qp, .int (nI n), .int (bz fu), .int (bz fa)])), (qk, .inl (cB, 3000, .inl K)), (qp, .inl (cI, 18000, .inl P)), (h2, .inr (6, [.ref qk2, .ref qp2, .int (nI n2), .int (bz fu2), .int (bz fa2)])), (qk2, .inl (cB, 3000, .inl K2)), (qp2, .inl (cI, 18000, .inl P2))] (fun u_ : (Nat → Int32) × (Nat → Int32) => match u_ with | (K', P') => lst n2 K' P' = lst n2 K2 P2) (fun u_ : (Nat → Int32) × (Nat → Int32) => match u_ with | (K', P') => none) (fun u_ : (Nat → Int32) × (Nat → Int32) => match u_ with | (K', P') => [(h, .inr (6, [.ref qk, .ref qp, .int (nI n2), .int (bz false), .int (bz false)])), (qk, .inl (cB, 3000, .inl K')), (qp, .inl (cI, 18000, .inl P')), (h2, .inr (6, [.ref qk2, .ref qp2, .int (nI n2), .int (bz fu2), .int (bz fa2)])), (qk2, .inl (cB, 3000, .inl K2)), (qp2, .inl (cI, 18000, .inl P2))]) := by
  refine ct_ofW (cc := b_MPath_copy) (maxL := 3) (ret := none) (by decide) rfl (Nat.le_of_ble_eq_true rfl) ?_
  intro p e R s m args below meth c A Q ls hx hb hr hml hts hown hlocks hname hRf hRc hRs hRl hQ hK hP hD hS hA hM hl
  have hl : lv_has ls 3 [(0, .ref h), (1, .ref h2)] := hl
  refine lv_aload_n hx hb d_MPath_copy_0 rfl (lv_at hl 0 rfl) ?_
  refine ct_callV (ci := 6) (q0 := 0) (As := []) (rest := []) (wr := [(h2, .inr (6, [.ref qk2, .ref qp2, .int (nI n2), .int (bz fu2), .int (bz fa2)])), (qk2, .inl (cB, 3000, .inl K2)), (qp2, .inl (cI, 18000, .inl P2))]) (n := 0) (c_MPath_empty l D cI cB cJ qQ  h qk qp n K P fu fa ) hx hb hml hown hts (amb_ok qQ) hK hP hD hS hA hM (gi_V gw_552 gw_553 gw_554 gw_34 gw_555) rfl (by decide +kernel) ⟨by omega, by omega⟩ [0, 1, 2] [3, 4, 5] rfl rfl rfl rfl (by decide) rfl rfl rfl hl.1 rfl (Nat.le_of_ble_eq_true rfl) d_MPath_copy_1 ⟨by omega, by omega⟩ (fun u_1 H locs hok hP hD hS => ?_)
  have hP : va_P D cl [(h2, .inr (6, [.ref qk2, .ref qp2, .int (nI n2), .int (bz fu2), .int (bz fa2)])), (qk2, .inl (cB, 3000, .inl K2)), (qp2, .inl (cI, 18000, .inl P2)), (h, .inr (6, [.ref qk, .ref qp, .int (nI 0), .int (bz false), .int (bz false)])), (qk, .inl (cB, 3000, .inl K)), (qp, .inl (cI, 18000, .inl P))] H := hP
  have hD : va_D A [(h2, .inr (6, [.ref qk2, .ref qp2, .int (nI n2), .int (bz fu2), .int (bz fa2)])), (qk2, .inl (cB, 3000, .inl K2)), (qp2, .inl (cI, 18000, .inl P2)), (h, .inr (6, [.ref qk, .ref qp, .int (nI 0), .int (bz false), .int (bz false)])), (qk, .inl (cB, 3000, .inl K)), (qp, .inl (cI, 18000, .inl P))] := hD
  refine W.eq (g2 := F0 m 4 ls []) rfl ?_
  refine lv_aload_n hx hb d_MPath_copy_4 rfl (lv_at hl 0 rfl) ?_
  refine lv_aload_n hx hb d_MPath_copy_5 rfl (lv_at hl 1 rfl) ?_
  refine va_get (D := D) (ci := 6) (v := .int (nI n2)) (C := R_MPath) (T := T_MPath) (N := 5) hx hb hts (ui_MPath _) hown hK hP 0 rfl rfl 2 (by decide) (hts _ (gwc gw_491)) (fun _ h9 => h9) rfl d_MPath_copy_6 ?_
  refine va_put (D := D) (ci := 6) (v := .int (nI n2)) (ty := .int) (C := R_MPath) (T := T_MPath) (N := 5) hx hb hts (ui_MPath _) t_MPath tk_MPath nk_MPath hown hK hP hD hS 3 rfl rfl 2 (by decide) (hts _ (gwc gw_491)) (fun _ h9 => h9) rfl (by decide +kernel) rfl rfl (Nat.le_of_ble_eq_true rfl) d_MPath_copy_9 (fun H locs hP hD hS => ?_)
  have hP : va_P D cl [(h2, .inr (6, [.ref qk2, .ref qp2, .int (nI n2), .int (bz fu2), .int (bz fa2)])), (qk2, .inl (cB, 3000, .inl K2)), (qp2, .inl (cI, 18000, .inl P2)), (h, .inr (6, [.ref qk, .ref qp, .int (nI n2), .int (bz false), .int (bz false)])), (qk, .inl (cB, 3000, .inl K)), (qp, .inl (cI, 18000, .inl P))] H := hP
  have hD : va_D A [(h2, .inr (6, [.ref qk2, .ref qp2, .int (nI n2), .int (bz fu2), .int (bz fa2)])), (qk2, .inl (cB, 3000, .inl K2)), (qp2, .inl (cI, 18000, .inl P2)), (h, .inr (6, [.ref qk, .ref qp, .int (nI n2), .int (bz false), .int (bz false)])), (qk, .inl (cB, 3000, .inl K)), (qp, .inl (cI, 18000, .inl P))] := hD
  refine lv_iconst (v := 0) hx hb d_MPath_copy_12 (by decide) ?_
  refine lv_istore_n (lv' := [(2, .int 0), (0, .ref h), (1, .ref h2)]) hx hb d_MPath_copy_13 rfl hl (by decide) rfl (fun ls hl => ?_)
  have L_14 : ∀ (n_ : Nat) (i : Nat) (K_ : Nat → Int32), n2 - i < n_ → (i ≤ n2) → (∀ j, j < i → K_ j = K2 j) → ∀ (H : Heap) (locs : List Loc) (ls : Array Slot), va_P D cl [(h, .inr (6, [.ref qk, .ref qp, .int (nI n2), .int (bz false), .int (bz false)])), (qk, .inl (cB, 3000, .inl K_)), (qp, .inl (cI, 18000, .inl P)), (h2, .inr (6, [.ref qk2, .ref qp2, .int (nI n2), .int (bz fu2), .int (bz fa2)])), (qk2, .inl (cB, 3000, .inl K2)), (qp2, .inl (cI, 18000, .inl P2))] H → va_D A [(h, .inr (6, [.ref qk, .ref qp, .int (nI n2), .int (bz false), .int (bz false)])), (qk, .inl (cB, 3000, .inl K_)), (qp, .inl (cI, 18000, .inl P)), (h2, .inr (6, [.ref qk2, .ref qp2, .int (nI n2), .int (bz fu2), .int (bz fa2)])), (qk2, .inl (cB, 3000, .inl K2)), (qp2, .inl (cI, 18000, .inl P2))] → va_S A s.heap H locs → lv_has ls 3 [(0, .ref h), (1, .ref h2), (2, .int (nI i))] → W p l e R s m args below meth c H locs (0) (0) Q (F0 m 14 ls []) := by
    intro n_
    induction n_ with
    | zero => intro i K_ hm_; exact absurd hm_ (Nat.not_lt_zero _)
    | succ n_ ih_14 =>
      intro i K_ hm_ hi hKi H locs ls hP hD hS hl
      refine lv_iload_n hx hb d_MPath_copy_14 rfl (lv_at hl 2 rfl) ?_
      refine lv_aload_n hx hb d_MPath_copy_15 rfl (lv_at hl 0 rfl) ?_
      refine va_get (D := D) (ci := 6) (v := .int (nI n2)) (C := R_MPath) (T := T_MPath) (N := 5) hx hb hts (ui_MPath _) hown hK hP 0 rfl rfl 2 (by decide) (hts _ (gwc gw_491)) (fun _ h9 => h9) rfl d_MPath_copy_16 ?_
      refine bn_ge (a1 := i) (b1 := n2) (tgt := 40) hx hb (by omega) (by omega) d_MPath_copy_19 (by decide) (fun c_2 => ?_) (fun c_2 => ?_)
      · skip
        have hK9 : ∀ j, j < n2 → K_ j = K2 j := fun j hj => hKi j (by omega)
        refine lv_iconst (v := 0) hx hb d_MPath_copy_40 (by decide) ?_
        refine lv_istore_n (lv' := [(2, .int 0), (0, .ref h), (1, .ref h2)]) hx hb d_MPath_copy_41 rfl hl (by decide) rfl (fun ls hl => ?_)
        have L_42 : ∀ (n_ : Nat) (i : Nat) (P_ : Nat → Int32), 6 * n2 - i < n_ → (i ≤ 6 * n2) → (∀ j, j < i → P_ j = P2 j) → ∀ (H : Heap) (locs : List Loc) (ls : Array Slot), va_P D cl [(h, .inr (6, [.ref qk, .ref qp, .int (nI n2), .int (bz false), .int (bz false)])), (qk, .inl (cB, 3000, .inl K_)), (qp, .inl (cI, 18000, .inl P_)), (h2, .inr (6, [.ref qk2, .ref qp2, .int (nI n2), .int (bz fu2), .int (bz fa2)])), (qk2, .inl (cB, 3000, .inl K2)), (qp2, .inl (cI, 18000, .inl P2))] H → va_D A [(h, .inr (6, [.ref qk, .ref qp, .int (nI n2), .int (bz false), .int (bz false)])), (qk, .inl (cB, 3000, .inl K_)), (qp, .inl (cI, 18000, .inl P_)), (h2, .inr (6, [.ref qk2, .ref qp2, .int (nI n2), .int (bz fu2), .int (bz fa2)])), (qk2, .inl (cB, 3000, .inl K2)), (qp2, .inl (cI, 18000, .inl P2))] → va_S A s.heap H locs → lv_has ls 3 [(0, .ref h), (1, .ref h2), (2, .int (nI i))] → W p l e R s m args below meth c H locs (0) (0) Q (F0 m 42 ls []) := by
          intro n_
          induction n_ with
          | zero => intro i P_ hm_; exact absurd hm_ (Nat.not_lt_zero _)
          | succ n_ ih_42 =>
            intro i P_ hm_ hi hPi H locs ls hP hD hS hl
            refine lv_iload_n hx hb d_MPath_copy_42 rfl (lv_at hl 2 rfl) ?_
            refine lv_bipush (v := 6) hx hb d_MPath_copy_43 (by decide) ?_
            refine lv_aload_n hx hb d_MPath_copy_45 rfl (lv_at hl 0 rfl) ?_
            refine va_get (D := D) (ci := 6) (v := .int (nI n2)) (C := R_MPath) (T := T_MPath) (N := 5) hx hb hts (ui_MPath _) hown hK hP 0 rfl rfl 2 (by decide) (hts _ (gwc gw_491)) (fun _ h9 => h9) rfl d_MPath_copy_46 ?_
            refine lv_imul hx hb d_MPath_copy_49 ?_
            refine tp_i (nI (6 * n2)) (pk_mul _ _) ?_
            refine bn_ge (a1 := i) (b1 := 6 * n2) (tgt := 71) hx hb (by omega) (by omega) d_MPath_copy_50 (by decide) (fun c_3 => ?_) (fun c_3 => ?_)
            · skip
              exact ct_retv hQ hx hb hr hlocks hP hD hS (K_, P_) [(h, .inr (6, [.ref qk, .ref qp, .int (nI n2), .int (bz false), .int (bz false)])), (qk, .inl (cB, 3000, .inl K_)), (qp, .inl (cI, 18000, .inl P_)), (h2, .inr (6, [.ref qk2, .ref qp2, .int (nI n2), .int (bz fu2), .int (bz fa2)])), (qk2, .inl (cB, 3000, .inl K2)), (qp2, .inl (cI, 18000, .inl P2))] [0, 1, 2, 3, 4, 5] (rfl) (lst_congr hK9 (fun j hj => hPi j (by omega))) (rfl) rfl rfl (by omega) (by omega) d_MPath_copy_71
            · skip
              refine lv_aload_n hx hb d_MPath_copy_53 rfl (lv_at hl 0 rfl) ?_
              refine va_get (D := D) (ci := 6) (v := .ref qp) (C := R_MPath) (T := T_MPath) (N := 5) hx hb hts (ui_MPath _) hown hK hP 0 rfl rfl 1 (by decide) (hts _ (gwc gw_490)) (fun _ h9 => h9) rfl d_MPath_copy_54 ?_
              refine lv_iload_n hx hb d_MPath_copy_57 rfl (lv_at hl 2 rfl) ?_
              refine lv_aload_n hx hb d_MPath_copy_58 rfl (lv_at hl 1 rfl) ?_
              refine va_get (D := D) (ci := 6) (v := .ref qp2) (C := R_MPath) (T := T_MPath) (N := 5) hx hb hts (ui_MPath _) hown hK hP 3 rfl rfl 1 (by decide) (hts _ (gwc gw_490)) (fun _ h9 => h9) rfl d_MPath_copy_59 ?_
              refine lv_iload_n hx hb d_MPath_copy_62 rfl (lv_at hl 2 rfl) ?_
              refine ld_i hx hb hK hP 5 0 rfl rfl i (by omega) (by omega) d_MPath_copy_63 ?_
              refine st_i hx hb hK hP hD hS 2 0 rfl rfl i (by omega) (by omega) d_MPath_copy_64 (fun H locs hP hD hS => ?_)
              have hP : va_P D cl [(h, .inr (6, [.ref qk, .ref qp, .int (nI n2), .int (bz false), .int (bz false)])), (qk, .inl (cB, 3000, .inl K_)), (qp, .inl (cI, 18000, .inl (upd P_ i (P2 i)))), (h2, .inr (6, [.ref qk2, .ref qp2, .int (nI n2), .int (bz fu2), .int (bz fa2)])), (qk2, .inl (cB, 3000, .inl K2)), (qp2, .inl (cI, 18000, .inl P2))] H := hP
              have hD : va_D A [(h, .inr (6, [.ref qk, .ref qp, .int (nI n2), .int (bz false), .int (bz false)])), (qk, .inl (cB, 3000, .inl K_)), (qp, .inl (cI, 18000, .inl (upd P_ i (P2 i)))), (h2, .inr (6, [.ref qk2, .ref qp2, .int (nI n2), .int (bz fu2), .int (bz fa2)])), (qk2, .inl (cB, 3000, .inl K2)), (qp2, .inl (cI, 18000, .inl P2))] := hD
              refine lv_iinc (v := nI (i + 1)) (lv' := [(2, .int (nI (i + 1))), (0, .ref h), (1, .ref h2)]) hx hb d_MPath_copy_65 hl (k := 2) rfl (by first | exact nI_add _ 1 | rfl | decide) (by decide) rfl (fun ls hl => ?_)
              refine lv_goto (tgt := 42) hx hb d_MPath_copy_68 (by decide) ?_
              exact ih_42 (i + 1) (upd P_ i (P2 i)) (by omega) (by omega) (fun j hj => by
      by_cases h9 : j = i
      · rw [h9, up_s]
      · rw [up_n h9]; exact hPi j (by omega)) _ _ _ hP hD hS (lv_sub hl [1, 2, 0] rfl)
        exact L_42 ((6 * n2 - 0) + 1) 0 P (Nat.lt_succ_self _) (by omega) (fun j hj => absurd hj (Nat.not_lt_zero j)) _ _ _ hP hD hS (lv_sub hl [1, 2, 0] rfl)
      · skip
        refine lv_aload_n hx hb d_MPath_copy_22 rfl (lv_at hl 0 rfl) ?_
        refine va_get (D := D) (ci := 6) (v := .ref qk) (C := R_MPath) (T := T_MPath) (N := 5) hx hb hts (ui_MPath _) hown hK hP 0 rfl rfl 0 (by decide) (hts _ (gwc gw_488)) (fun _ h9 => h9) rfl d_MPath_copy_23 ?_
        refine lv_iload_n hx hb d_MPath_copy_26 rfl (lv_at hl 2 rfl) ?_
        refine lv_aload_n hx hb d_MPath_copy_27 rfl (lv_at hl 1 rfl) ?_
        refine va_get (D := D) (ci := 6) (v := .ref qk2) (C := R_MPath) (T := T_MPath) (N := 5) hx hb hts (ui_MPath _) hown hK hP 3 rfl rfl 0 (by decide) (hts _ (gwc gw_488)) (fun _ h9 => h9) rfl d_MPath_copy_28 ?_
        refine lv_iload_n hx hb d_MPath_copy_31 rfl (lv_at hl 2 rfl) ?_
        refine ld_b hx hb hK hP 4 1 rfl rfl i (by omega) (by omega) d_MPath_copy_32 ?_
        refine st_b hx hb hK hP hD hS 1 1 rfl rfl i (kok_b (hk i (by omega))) (by omega) (by omega) d_MPath_copy_33 (fun H locs hP hD hS => ?_)
        have hP : va_P D cl [(h, .inr (6, [.ref qk, .ref qp, .int (nI n2), .int (bz false), .int (bz false)])), (qk, .inl (cB, 3000, .inl (upd K_ i (K2 i)))), (qp, .inl (cI, 18000, .inl P)), (h2, .inr (6, [.ref qk2, .ref qp2, .int (nI n2), .int (bz fu2), .int (bz fa2)])), (qk2, .inl (cB, 3000, .inl K2)), (qp2, .inl (cI, 18000, .inl P2))] H := hP
        have hD : va_D A [(h, .inr (6, [.ref qk, .ref qp, .int (nI n2), .int (bz false), .int (bz false)])), (qk, .inl (cB, 3000, .inl (upd K_ i (K2 i)))), (qp, .inl (cI, 18000, .inl P)), (h2, .inr (6, [.ref qk2, .ref qp2, .int (nI n2), .int (bz fu2), .int (bz fa2)])), (qk2, .inl (cB, 3000, .inl K2)), (qp2, .inl (cI, 18000, .inl P2))] := hD
        refine lv_iinc (v := nI (i + 1)) (lv' := [(2, .int (nI (i + 1))), (0, .ref h), (1, .ref h2)]) hx hb d_MPath_copy_34 hl (k := 2) rfl (by first | exact nI_add _ 1 | rfl | decide) (by decide) rfl (fun ls hl => ?_)
        refine lv_goto (tgt := 14) hx hb d_MPath_copy_37 (by decide) ?_
        exact ih_14 (i + 1) (upd K_ i (K2 i)) (by omega) (by omega) (fun j hj => by
      by_cases h9 : j = i
      · rw [h9, up_s]
      · rw [up_n h9]; exact hKi j (by omega)) _ _ _ hP hD hS (lv_sub hl [1, 2, 0] rfl)
  exact L_14 ((n2 - 0) + 1) 0 K (Nat.lt_succ_self _) (by omega) (fun j hj => absurd hj (Nat.not_lt_zero j)) _ _ _ (hP.sub [3, 4, 5, 0, 1, 2] rfl) (hD.sub [3, 4, 5, 0, 1, 2] (by decide) rfl) hS (lv_sub hl [1, 2, 0] rfl)
set_option maxHeartbeats 4000000 in
set_option maxRecDepth 100000 in
/-- first(part): where its subpath begins -/
theorem c_MPath_first (l : Launch) (D : va_G) (cI cB cJ : ClassId) (qQ : Nat) (h : Nat) (qk : Nat) (qp : Nat) (n : Nat) (K : Nat → Int32) (P : Nat → Int32) (fu : Bool) (fa : Bool) (pa : Nat) (hp : pa < 3000) (h0 : K 0 = 0) : ct l D cl [(cI, .int), (cB, .byte), (cJ, .long)] (amb qQ) y_MPath_first w_MPath_first 0 0 (0) (0) [.ref h, .int (nI pa)] [(h, .inr (6, [.ref qk, .ref qp, .int (nI n), .int (bz fu), .int (bz fa)])), (qk, .inl (cB, 3000, .inl K)), (qp, .inl (cI, 18000, .inl P))] (fun r : Nat => r ≤ pa ∧ K r = 0 ∧ ∀ j, r < j → j ≤ pa → ¬ K j = 0) (fun r : Nat => some (.int (nI r))) (fun r : Nat => [(h, .inr (6, [.ref qk, .ref qp, .int (nI n), .int (bz fu), .int (bz fa)])), (qk, .inl (cB, 3000, .inl K)), (qp, .inl (cI, 18000, .inl P))]) := by
  refine ct_ofW (cc := b_MPath_first) (maxL := 3) (ret := (some .int)) (by decide) rfl (Nat.le_of_ble_eq_true rfl) ?_
  intro p e R s m args below meth c A Q ls hx hb hr hml hts hown hlocks hname hRf hRc hRs hRl hQ hK hP hD hS hA hM hl
  have hl : lv_has ls 3 [(0, .ref h), (1, .int (nI pa))] := hl
  refine lv_iload_n hx hb d_MPath_first_0 rfl (lv_at hl 1 rfl) ?_
  refine lv_istore_n (lv' := [(2, .int (nI pa)), (0, .ref h), (1, .int (nI pa))]) hx hb d_MPath_first_1 rfl hl (by decide) rfl (fun ls hl => ?_)
  have L_2 : ∀ (n_ : Nat) (i : Nat), i < n_ → (i ≤ pa) → (∀ j, i < j → j ≤ pa → ¬ K j = 0) → ∀ (H : Heap) (locs : List Loc) (ls : Array Slot), va_P D cl [(h, .inr (6, [.ref qk, .ref qp, .int (nI n), .int (bz fu), .int (bz fa)])), (qk, .inl (cB, 3000, .inl K)), (qp, .inl (cI, 18000, .inl P))] H → va_D A [(h, .inr (6, [.ref qk, .ref qp, .int (nI n), .int (bz fu), .int (bz fa)])), (qk, .inl (cB, 3000, .inl K)), (qp, .inl (cI, 18000, .inl P))] → va_S A s.heap H locs → lv_has ls 3 [(0, .ref h), (1, .int (nI pa)), (2, .int (nI i))] → W p l e R s m args below meth c H locs (0) (0) Q (F0 m 2 ls []) := by
    intro n_
    induction n_ with
    | zero => intro i hm_; exact absurd hm_ (Nat.not_lt_zero _)
    | succ n_ ih_2 =>
      intro i hm_ hi hj H locs ls hP hD hS hl
      refine lv_aload_n hx hb d_MPath_first_2 rfl (lv_at hl 0 rfl) ?_
      refine va_get (D := D) (ci := 6) (v := .ref qk) (C := R_MPath) (T := T_MPath) (N := 5) hx hb hts (ui_MPath _) hown hK hP 0 rfl rfl 0 (by decide) (hts _ (gwc gw_488)) (fun _ h9 => h9) rfl d_MPath_first_3 ?_
      refine lv_iload_n hx hb d_MPath_first_6 rfl (lv_at hl 2 rfl) ?_
      refine ld_b hx hb hK hP 1 1 rfl rfl i (by omega) (by omega) d_MPath_first_7 ?_
      refine lv_if_eq (tgt := 17) hx hb d_MPath_first_8 (by decide) (fun c_1 => ?_) (fun c_1 => ?_)
      · skip
        refine lv_iload_n hx hb d_MPath_first_17 rfl (lv_at hl 2 rfl) ?_
        exact ct_reti hQ hx hb hr hlocks hP hD hS (i) [(h, .inr (6, [.ref qk, .ref qp, .int (nI n), .int (bz fu), .int (bz fa)])), (qk, .inl (cB, 3000, .inl K)), (qp, .inl (cI, 18000, .inl P))] [0, 1, 2] (rfl) (⟨hi, c_1, hj⟩) (rfl) rfl rfl (by omega) (by omega) d_MPath_first_18
      · skip
        have hi0 : 0 < i := Nat.pos_of_ne_zero (fun q => c_1 (by rw [q]; exact h0))
        refine lv_iinc (v := nI (i - 1)) (lv' := [(2, .int (nI (i - 1))), (0, .ref h), (1, .int (nI pa))]) hx hb d_MPath_first_11 hl (k := 2) rfl (sb_m1 hi0) (by decide) rfl (fun ls hl => ?_)
        refine lv_goto (tgt := 2) hx hb d_MPath_first_14 (by decide) ?_
        exact ih_2 (i - 1) (by omega) (by omega) (fun j h1 h2 => by
      by_cases h9 : j = i
      · rw [h9]; exact c_1
      · exact hj j (by omega) h2) _ _ _ hP hD hS (lv_sub hl [1, 2, 0] rfl)
  exact L_2 (pa + 1) pa (Nat.lt_succ_self _) (by omega) (fun j h1 h2 => absurd h1 (by omega)) _ _ _ hP hD hS (lv_sub hl [1, 2, 0] rfl)
set_option maxHeartbeats 4000000 in
set_option maxRecDepth 100000 in
/-- open(): a subpath behind closing -/
theorem c_MPath_open (l : Launch) (D : va_G) (cI cB cJ : ClassId) (qQ : Nat) (h : Nat) (qk : Nat) (qp : Nat) (n : Nat) (K : Nat → Int32) (P : Nat → Int32) (fu : Bool) (fa : Bool) (hn : n ≤ 3000) : ct l D cl [(cI, .int), (cB, .byte), (cJ, .long)] (amb qQ) y_MPath_open w_MPath_open 3 79 (0) (0) [.ref h] [(h, .inr (6, [.ref qk, .ref qp, .int (nI n), .int (bz fu), .int (bz fa)])), (qk, .inl (cB, 3000, .inl K)), (qp, .inl (cI, 18000, .inl P))] (fun u_ : Nat × (Nat → Int32) × (Nat → Int32) × Bool × Bool => match u_ with | (n', K', P', fu', fa') => n' ≤ 3000 ∧ (lst n' K' P', fu', fa') = openD (lst n K P, fu, fa)) (fun u_ : Nat × (Nat → Int32) × (Nat → Int32) × Bool × Bool => match u_ with | (n', K', P', fu', fa') => none) (fun u_ : Nat × (Nat → Int32) × (Nat → Int32) × Bool × Bool => match u_ with | (n', K', P', fu', fa') => [(h, .inr (6, [.ref qk, .ref qp, .int (nI n'), .int (bz fu'), .int (bz fa')])), (qk, .inl (cB, 3000, .inl K')), (qp, .inl (cI, 18000, .inl P'))]) := by
  refine ct_ofW (cc := b_MPath_open) (maxL := 1) (ret := none) (by decide) rfl (Nat.le_of_ble_eq_true rfl) ?_
  intro p e R s m args below meth c A Q ls hx hb hr hml hts hown hlocks hname hRf hRc hRs hRl hQ hK hP hD hS hA hM hl
  have hl : lv_has ls 1 [(0, .ref h)] := hl
  refine lv_aload_n hx hb d_MPath_open_0 rfl (lv_at hl 0 rfl) ?_
  refine va_get (D := D) (ci := 6) (v := .int (nI n)) (C := R_MPath) (T := T_MPath) (N := 5) hx hb hts (ui_MPath _) hown hK hP 0 rfl rfl 2 (by decide) (hts _ (gwc gw_491)) (fun _ h9 => h9) rfl d_MPath_open_1 ?_
  refine bz_le (a1 := n) (tgt := 51) hx hb (by omega) d_MPath_open_4 (by decide) (fun c_1 => ?_) (fun c_1 => ?_)
  · skip
    exact ct_retv hQ hx hb hr hlocks hP hD hS (n, K, P, fu, fa) [(h, .inr (6, [.ref qk, .ref qp, .int (nI n), .int (bz fu), .int (bz fa)])), (qk, .inl (cB, 3000, .inl K)), (qp, .inl (cI, 18000, .inl P))] [0, 1, 2] (rfl) (⟨hn, (openD_0 c_1).symm⟩) (rfl) rfl rfl (by omega) (by omega) d_MPath_open_51
  · skip
    refine lv_aload_n hx hb d_MPath_open_7 rfl (lv_at hl 0 rfl) ?_
    refine va_get (D := D) (ci := 6) (v := .ref qk) (C := R_MPath) (T := T_MPath) (N := 5) hx hb hts (ui_MPath _) hown hK hP 0 rfl rfl 0 (by decide) (hts _ (gwc gw_488)) (fun _ h9 => h9) rfl d_MPath_open_8 ?_
    refine lv_aload_n hx hb d_MPath_open_11 rfl (lv_at hl 0 rfl) ?_
    refine va_get (D := D) (ci := 6) (v := .int (nI n)) (C := R_MPath) (T := T_MPath) (N := 5) hx hb hts (ui_MPath _) hown hK hP 0 rfl rfl 2 (by decide) (hts _ (gwc gw_491)) (fun _ h9 => h9) rfl d_MPath_open_12 ?_
    refine lv_iconst (v := 1) hx hb d_MPath_open_15 (by decide) ?_
    refine lv_isub hx hb d_MPath_open_16 ?_
    refine tp_i (nI (n - 1)) (pk_sub (a := n) (b := 1) (by omega)) ?_
    refine ld_b hx hb hK hP 1 1 rfl rfl (n - 1) (by omega) (by omega) d_MPath_open_17 ?_
    refine lv_iconst (v := 3) hx hb d_MPath_open_18 (by decide) ?_
    refine lv_icmp_ne (tgt := 51) hx hb d_MPath_open_19 (by decide) (fun c_2 => ?_) (fun c_2 => ?_)
    · skip
      exact ct_retv hQ hx hb hr hlocks hP hD hS (n, K, P, fu, fa) [(h, .inr (6, [.ref qk, .ref qp, .int (nI n), .int (bz fu), .int (bz fa)])), (qk, .inl (cB, 3000, .inl K)), (qp, .inl (cI, 18000, .inl P))] [0, 1, 2] (rfl) (⟨hn, (openD_n c_1 c_2).symm⟩) (rfl) rfl rfl (by omega) (by omega) d_MPath_open_51
    · skip
      refine lv_aload_n hx hb d_MPath_open_22 rfl (lv_at hl 0 rfl) ?_
      refine lv_iconst (v := 0) hx hb d_MPath_open_23 (by decide) ?_
      refine lv_aload_n hx hb d_MPath_open_24 rfl (lv_at hl 0 rfl) ?_
      refine lv_aload_n hx hb d_MPath_open_25 rfl (lv_at hl 0 rfl) ?_
      refine va_get (D := D) (ci := 6) (v := .int (nI n)) (C := R_MPath) (T := T_MPath) (N := 5) hx hb hts (ui_MPath _) hown hK hP 0 rfl rfl 2 (by decide) (hts _ (gwc gw_491)) (fun _ h9 => h9) rfl d_MPath_open_26 ?_
      refine lv_iconst (v := 1) hx hb d_MPath_open_29 (by decide) ?_
      refine lv_isub hx hb d_MPath_open_30 ?_
      refine tp_i (nI (n - 1)) (pk_sub (a := n) (b := 1) (by omega)) ?_
      refine lv_iconst (v := 0) hx hb d_MPath_open_31 (by decide) ?_
      refine ct_callV (ci := 6) (q0 := 0) (As := [.int (nI (n - 1)), .int 0]) (rest := [.int 0, .ref h]) (wr := []) (n := 2) (c_MPath_get l D cI cB cJ qQ  h qk qp n K P fu fa (n - 1) 0 (by omega) (by omega)) hx hb hml hown hts (amb_ok qQ) hK hP hD hS hA hM (gi_V gw_586 gw_541 gw_542 gw_34 gw_543) rfl (by decide +kernel) ⟨by omega, by omega⟩ [0, 1, 2] [] rfl rfl rfl rfl (by decide) rfl rfl rfl hl.1 rfl (Nat.le_of_ble_eq_true rfl) d_MPath_open_32 ⟨by omega, by omega⟩ (fun u_3 H locs hok hP hD hS => ?_)
      have hP : va_P D cl [(h, .inr (6, [.ref qk, .ref qp, .int (nI n), .int (bz fu), .int (bz fa)])), (qk, .inl (cB, 3000, .inl K)), (qp, .inl (cI, 18000, .inl P))] H := hP
      have hD : va_D A [(h, .inr (6, [.ref qk, .ref qp, .int (nI n), .int (bz fu), .int (bz fa)])), (qk, .inl (cB, 3000, .inl K)), (qp, .inl (cI, 18000, .inl P))] := hD
      refine W.eq (g2 := F0 m 35 ls [.int (P (6 * (n - 1) + 0)), .int 0, .ref h]) rfl ?_
      refine lv_i2l (v := (P (6 * (n - 1) + 0)).toInt64) hx hb d_MPath_open_35 rfl ?_
      refine lv_aload_n hx hb d_MPath_open_36 rfl (lv_at hl 0 rfl) ?_
      refine lv_aload_n hx hb d_MPath_open_37 rfl (lv_at hl 0 rfl) ?_
      refine va_get (D := D) (ci := 6) (v := .int (nI n)) (C := R_MPath) (T := T_MPath) (N := 5) hx hb hts (ui_MPath _) hown hK hP 0 rfl rfl 2 (by decide) (hts _ (gwc gw_491)) (fun _ h9 => h9) rfl d_MPath_open_38 ?_
      refine lv_iconst (v := 1) hx hb d_MPath_open_41 (by decide) ?_
      refine lv_isub hx hb d_MPath_open_42 ?_
      refine tp_i (nI (n - 1)) (pk_sub (a := n) (b := 1) (by omega)) ?_
      refine lv_iconst (v := 1) hx hb d_MPath_open_43 (by decide) ?_
      refine ct_callV (ci := 6) (q0 := 0) (As := [.int (nI (n - 1)), .int 1]) (rest := [.long ((P (6 * (n - 1) + 0)).toInt64), .int 0, .ref h]) (wr := []) (n := 2) (c_MPath_get l D cI cB cJ qQ  h qk qp n K P fu fa (n - 1) 1 (by omega) (by omega)) hx hb hml hown hts (amb_ok qQ) hK hP hD hS hA hM (gi_V gw_586 gw_541 gw_542 gw_34 gw_543) rfl (by decide +kernel) ⟨by omega, by omega⟩ [0, 1, 2] [] rfl rfl rfl rfl (by decide) rfl rfl rfl hl.1 rfl (Nat.le_of_ble_eq_true rfl) d_MPath_open_44 ⟨by omega, by omega⟩ (fun u_4 H locs hok hP hD hS => ?_)
      have hP : va_P D cl [(h, .inr (6, [.ref qk, .ref qp, .int (nI n), .int (bz fu), .int (bz fa)])), (qk, .inl (cB, 3000, .inl K)), (qp, .inl (cI, 18000, .inl P))] H := hP
      have hD : va_D A [(h, .inr (6, [.ref qk, .ref qp, .int (nI n), .int (bz fu), .int (bz fa)])), (qk, .inl (cB, 3000, .inl K)), (qp, .inl (cI, 18000, .inl P))] := hD
      refine W.eq (g2 := F0 m 47 ls [.int (P (6 * (n - 1) + 1)), .long ((P (6 * (n - 1) + 0)).toInt64), .int 0, .ref h]) rfl ?_
      refine lv_i2l (v := (P (6 * (n - 1) + 1)).toInt64) hx hb d_MPath_open_47 rfl ?_
      refine ct_callV (ci := 6) (q0 := 0) (As := [.int 0, .long ((P (6 * (n - 1) + 0)).toInt64), .long ((P (6 * (n - 1) + 1)).toInt64)]) (rest := []) (wr := []) (n := 3) (c_MPath_addPoint l D cI cB cJ qQ  h qk qp n K P fu fa 0 ((P (6 * (n - 1) + 0)).toInt64) ((P (6 * (n - 1) + 1)).toInt64) (hn) (kok0)) hx hb hml hown hts (amb_ok qQ) hK hP hD hS hA hM (gi_V gw_560 gw_561 gw_562 gw_34 gw_563) rfl (by decide +kernel) ⟨by omega, by omega⟩ [0, 1, 2] [] rfl rfl rfl rfl (by decide) rfl rfl rfl hl.1 rfl (Nat.le_of_ble_eq_true rfl) d_MPath_open_48 ⟨by omega, by omega⟩ (fun u_5 H locs hok hP hD hS => ?_)
      obtain ⟨n'_6, K'_7, P'_8, fu'_9, fa'_10⟩ := u_5
      have hok_11 : n'_6 ≤ 3000 ∧ (lst n'_6 K'_7 P'_8, fu'_9, fa'_10) = addD (lst n K P, fu, fa) 0 ((P (6 * (n - 1) + 0)).toInt64) ((P (6 * (n - 1) + 1)).toInt64) 0 0 0 0 := hok
      have hP : va_P D cl [(h, .inr (6, [.ref qk, .ref qp, .int (nI n'_6), .int (bz fu'_9), .int (bz fa'_10)])), (qk, .inl (cB, 3000, .inl K'_7)), (qp, .inl (cI, 18000, .inl P'_8))] H := hP
      have hD : va_D A [(h, .inr (6, [.ref qk, .ref qp, .int (nI n'_6), .int (bz fu'_9), .int (bz fa'_10)])), (qk, .inl (cB, 3000, .inl K'_7)), (qp, .inl (cI, 18000, .inl P'_8))] := hD
      refine W.eq (g2 := F0 m 51 ls []) rfl ?_
      exact ct_retv hQ hx hb hr hlocks hP hD hS (n'_6, K'_7, P'_8, fu'_9, fa'_10) [(h, .inr (6, [.ref qk, .ref qp, .int (nI n'_6), .int (bz fu'_9), .int (bz fa'_10)])), (qk, .inl (cB, 3000, .inl K'_7)), (qp, .inl (cI, 18000, .inl P'_8))] [0, 1, 2] (rfl) (⟨hok_11.1, by rw [hok_11.2, openD_y c_1 c_2]⟩) (rfl) rfl rfl (by omega) (by omega) d_MPath_open_51
set_option maxHeartbeats 4000000 in
set_option maxRecDepth 100000 in
/-- begin(x, y) -/
theorem c_MPath_begin (l : Launch) (D : va_G) (cI cB cJ : ClassId) (qQ : Nat) (h : Nat) (qk : Nat) (qp : Nat) (n : Nat) (K : Nat → Int32) (P : Nat → Int32) (fu : Bool) (fa : Bool) (x : Int64) (y : Int64) (hn : n ≤ 3000) : ct l D cl [(cI, .int), (cB, .byte), (cJ, .long)] (amb qQ) y_MPath_begin w_MPath_begin 3 79 (0) (0) [.ref h, .long x, .long y] [(h, .inr (6, [.ref qk, .ref qp, .int (nI n), .int (bz fu), .int (bz fa)])), (qk, .inl (cB, 3000, .inl K)), (qp, .inl (cI, 18000, .inl P))] (fun u_ : Nat × (Nat → Int32) × (Nat → Int32) × Bool × Bool => match u_ with | (n', K', P', fu', fa') => n' ≤ 3000 ∧ (lst n' K' P', fu', fa') = beginD (lst n K P, fu, fa) x y) (fun u_ : Nat × (Nat → Int32) × (Nat → Int32) × Bool × Bool => match u_ with | (n', K', P', fu', fa') => none) (fun u_ : Nat × (Nat → Int32) × (Nat → Int32) × Bool × Bool => match u_ with | (n', K', P', fu', fa') => [(h, .inr (6, [.ref qk, .ref qp, .int (nI n'), .int (bz fu'), .int (bz fa')])), (qk, .inl (cB, 3000, .inl K')), (qp, .inl (cI, 18000, .inl P'))]) := by
  refine ct_ofW (cc := b_MPath_begin) (maxL := 5) (ret := none) (by decide) rfl (Nat.le_of_ble_eq_true rfl) ?_
  intro p e R s m args below meth c A Q ls hx hb hr hml hts hown hlocks hname hRf hRc hRs hRl hQ hK hP hD hS hA hM hl
  have hl : lv_has ls 5 [(0, .ref h), (1, .long x), (3, .long y)] := hl
  refine lv_aload_n hx hb d_MPath_begin_0 rfl (lv_at hl 0 rfl) ?_
  refine va_get (D := D) (ci := 6) (v := .int (nI n)) (C := R_MPath) (T := T_MPath) (N := 5) hx hb hts (ui_MPath _) hown hK hP 0 rfl rfl 2 (by decide) (hts _ (gwc gw_491)) (fun _ h9 => h9) rfl d_MPath_begin_1 ?_
  refine bz_le (a1 := n) (tgt := 31) hx hb (by omega) d_MPath_begin_4 (by decide) (fun c_1 => ?_) (fun c_1 => ?_)
  · skip
    refine lv_aload_n hx hb d_MPath_begin_31 rfl (lv_at hl 0 rfl) ?_
    refine lv_iconst (v := 0) hx hb d_MPath_begin_32 (by decide) ?_
    refine lv_lload_n hx hb d_MPath_begin_33 rfl (lv_at hl 1 rfl) ?_
    refine lv_lload_n hx hb d_MPath_begin_34 rfl (lv_at hl 2 rfl) ?_
    refine ct_callV (ci := 6) (q0 := 0) (As := [.int 0, .long x, .long y]) (rest := []) (wr := []) (n := 3) (c_MPath_addPoint l D cI cB cJ qQ  h qk qp n K P fu fa 0 x y (by omega) (kok0)) hx hb hml hown hts (amb_ok qQ) hK hP hD hS hA hM (gi_V gw_560 gw_561 gw_562 gw_34 gw_563) rfl (by decide +kernel) ⟨by omega, by omega⟩ [0, 1, 2] [] rfl rfl rfl rfl (by decide) rfl rfl rfl hl.1 rfl (Nat.le_of_ble_eq_true rfl) d_MPath_begin_35 ⟨by omega, by omega⟩ (fun u_2 H locs hok hP hD hS => ?_)
    obtain ⟨n'_3, K'_4, P'_5, fu'_6, fa'_7⟩ := u_2
    have hok_8 : n'_3 ≤ 3000 ∧ (lst n'_3 K'_4 P'_5, fu'_6, fa'_7) = addD (lst n K P, fu, fa) 0 x y 0 0 0 0 := hok
    have hP : va_P D cl [(h, .inr (6, [.ref qk, .ref qp, .int (nI n'_3), .int (bz fu'_6), .int (bz fa'_7)])), (qk, .inl (cB, 3000, .inl K'_4)), (qp, .inl (cI, 18000, .inl P'_5))] H := hP
    have hD : va_D A [(h, .inr (6, [.ref qk, .ref qp, .int (nI n'_3), .int (bz fu'_6), .int (bz fa'_7)])), (qk, .inl (cB, 3000, .inl K'_4)), (qp, .inl (cI, 18000, .inl P'_5))] := hD
    refine W.eq (g2 := F0 m 38 ls []) rfl ?_
    exact ct_retv hQ hx hb hr hlocks hP hD hS (n'_3, K'_4, P'_5, fu'_6, fa'_7) [(h, .inr (6, [.ref qk, .ref qp, .int (nI n'_3), .int (bz fu'_6), .int (bz fa'_7)])), (qk, .inl (cB, 3000, .inl K'_4)), (qp, .inl (cI, 18000, .inl P'_5))] [0, 1, 2] (rfl) (⟨hok_8.1, by rw [hok_8.2, beginD_0 c_1]⟩) (rfl) rfl rfl (by omega) (by omega) d_MPath_begin_38
  · skip
    refine lv_aload_n hx hb d_MPath_begin_7 rfl (lv_at hl 0 rfl) ?_
    refine va_get (D := D) (ci := 6) (v := .ref qk) (C := R_MPath) (T := T_MPath) (N := 5) hx hb hts (ui_MPath _) hown hK hP 0 rfl rfl 0 (by decide) (hts _ (gwc gw_488)) (fun _ h9 => h9) rfl d_MPath_begin_8 ?_
    refine lv_aload_n hx hb d_MPath_begin_11 rfl (lv_at hl 0 rfl) ?_
    refine va_get (D := D) (ci := 6) (v := .int (nI n)) (C := R_MPath) (T := T_MPath) (N := 5) hx hb hts (ui_MPath _) hown hK hP 0 rfl rfl 2 (by decide) (hts _ (gwc gw_491)) (fun _ h9 => h9) rfl d_MPath_begin_12 ?_
    refine lv_iconst (v := 1) hx hb d_MPath_begin_15 (by decide) ?_
    refine lv_isub hx hb d_MPath_begin_16 ?_
    refine tp_i (nI (n - 1)) (pk_sub (a := n) (b := 1) (by omega)) ?_
    refine ld_b hx hb hK hP 1 1 rfl rfl (n - 1) (by omega) (by omega) d_MPath_begin_17 ?_
    refine lv_if_ne (tgt := 31) hx hb d_MPath_begin_18 (by decide) (fun c_9 => ?_) (fun c_9 => ?_)
    · skip
      refine lv_aload_n hx hb d_MPath_begin_31 rfl (lv_at hl 0 rfl) ?_
      refine lv_iconst (v := 0) hx hb d_MPath_begin_32 (by decide) ?_
      refine lv_lload_n hx hb d_MPath_begin_33 rfl (lv_at hl 1 rfl) ?_
      refine lv_lload_n hx hb d_MPath_begin_34 rfl (lv_at hl 2 rfl) ?_
      refine ct_callV (ci := 6) (q0 := 0) (As := [.int 0, .long x, .long y]) (rest := []) (wr := []) (n := 3) (c_MPath_addPoint l D cI cB cJ qQ  h qk qp n K P fu fa 0 x y (by omega) (kok0)) hx hb hml hown hts (amb_ok qQ) hK hP hD hS hA hM (gi_V gw_560 gw_561 gw_562 gw_34 gw_563) rfl (by decide +kernel) ⟨by omega, by omega⟩ [0, 1, 2] [] rfl rfl rfl rfl (by decide) rfl rfl rfl hl.1 rfl (Nat.le_of_ble_eq_true rfl) d_MPath_begin_35 ⟨by omega, by omega⟩ (fun u_10 H locs hok hP hD hS => ?_)
      obtain ⟨n'_11, K'_12, P'_13, fu'_14, fa'_15⟩ := u_10
      have hok_16 : n'_11 ≤ 3000 ∧ (lst n'_11 K'_12 P'_13, fu'_14, fa'_15) = addD (lst n K P, fu, fa) 0 x y 0 0 0 0 := hok
      have hP : va_P D cl [(h, .inr (6, [.ref qk, .ref qp, .int (nI n'_11), .int (bz fu'_14), .int (bz fa'_15)])), (qk, .inl (cB, 3000, .inl K'_12)), (qp, .inl (cI, 18000, .inl P'_13))] H := hP
      have hD : va_D A [(h, .inr (6, [.ref qk, .ref qp, .int (nI n'_11), .int (bz fu'_14), .int (bz fa'_15)])), (qk, .inl (cB, 3000, .inl K'_12)), (qp, .inl (cI, 18000, .inl P'_13))] := hD
      refine W.eq (g2 := F0 m 38 ls []) rfl ?_
      exact ct_retv hQ hx hb hr hlocks hP hD hS (n'_11, K'_12, P'_13, fu'_14, fa'_15) [(h, .inr (6, [.ref qk, .ref qp, .int (nI n'_11), .int (bz fu'_14), .int (bz fa'_15)])), (qk, .inl (cB, 3000, .inl K'_12)), (qp, .inl (cI, 18000, .inl P'_13))] [0, 1, 2] (rfl) (⟨hok_16.1, by rw [hok_16.2, beginD_n c_1 c_9]⟩) (rfl) rfl rfl (by omega) (by omega) d_MPath_begin_38
    · skip
      refine lv_aload_n hx hb d_MPath_begin_21 rfl (lv_at hl 0 rfl) ?_
      refine lv_dup hx hb d_MPath_begin_22 rfl ?_
      refine va_get (D := D) (ci := 6) (v := .int (nI n)) (C := R_MPath) (T := T_MPath) (N := 5) hx hb hts (ui_MPath _) hown hK hP 0 rfl rfl 2 (by decide) (hts _ (gwc gw_491)) (fun _ h9 => h9) rfl d_MPath_begin_23 ?_
      refine lv_iconst (v := 1) hx hb d_MPath_begin_26 (by decide) ?_
      refine lv_isub hx hb d_MPath_begin_27 ?_
      refine tp_i (nI (n - 1)) (pk_sub (a := n) (b := 1) (by omega)) ?_
      refine va_put (D := D) (ci := 6) (v := .int (nI (n - 1))) (ty := .int) (C := R_MPath) (T := T_MPath) (N := 5) hx hb hts (ui_MPath _) t_MPath tk_MPath nk_MPath hown hK hP hD hS 0 rfl rfl 2 (by decide) (hts _ (gwc gw_491)) (fun _ h9 => h9) rfl (by decide +kernel) rfl rfl (Nat.le_of_ble_eq_true rfl) d_MPath_begin_28 (fun H locs hP hD hS => ?_)
      have hP : va_P D cl [(h, .inr (6, [.ref qk, .ref qp, .int (nI (n - 1)), .int (bz fu), .int (bz fa)])), (qk, .inl (cB, 3000, .inl K)), (qp, .inl (cI, 18000, .inl P))] H := hP
      have hD : va_D A [(h, .inr (6, [.ref qk, .ref qp, .int (nI (n - 1)), .int (bz fu), .int (bz fa)])), (qk, .inl (cB, 3000, .inl K)), (qp, .inl (cI, 18000, .inl P))] := hD
      refine lv_aload_n hx hb d_MPath_begin_31 rfl (lv_at hl 0 rfl) ?_
      refine lv_iconst (v := 0) hx hb d_MPath_begin_32 (by decide) ?_
      refine lv_lload_n hx hb d_MPath_begin_33 rfl (lv_at hl 1 rfl) ?_
      refine lv_lload_n hx hb d_MPath_begin_34 rfl (lv_at hl 2 rfl) ?_
      refine ct_callV (ci := 6) (q0 := 0) (As := [.int 0, .long x, .long y]) (rest := []) (wr := []) (n := 3) (c_MPath_addPoint l D cI cB cJ qQ  h qk qp (n - 1) K P fu fa 0 x y (by omega) (kok0)) hx hb hml hown hts (amb_ok qQ) hK hP hD hS hA hM (gi_V gw_560 gw_561 gw_562 gw_34 gw_563) rfl (by decide +kernel) ⟨by omega, by omega⟩ [0, 1, 2] [] rfl rfl rfl rfl (by decide) rfl rfl rfl hl.1 rfl (Nat.le_of_ble_eq_true rfl) d_MPath_begin_35 ⟨by omega, by omega⟩ (fun u_17 H locs hok hP hD hS => ?_)
      obtain ⟨n'_18, K'_19, P'_20, fu'_21, fa'_22⟩ := u_17
      have hok_23 : n'_18 ≤ 3000 ∧ (lst n'_18 K'_19 P'_20, fu'_21, fa'_22) = addD (lst (n - 1) K P, fu, fa) 0 x y 0 0 0 0 := hok
      have hP : va_P D cl [(h, .inr (6, [.ref qk, .ref qp, .int (nI n'_18), .int (bz fu'_21), .int (bz fa'_22)])), (qk, .inl (cB, 3000, .inl K'_19)), (qp, .inl (cI, 18000, .inl P'_20))] H := hP
      have hD : va_D A [(h, .inr (6, [.ref qk, .ref qp, .int (nI n'_18), .int (bz fu'_21), .int (bz fa'_22)])), (qk, .inl (cB, 3000, .inl K'_19)), (qp, .inl (cI, 18000, .inl P'_20))] := hD
      refine W.eq (g2 := F0 m 38 ls []) rfl ?_
      exact ct_retv hQ hx hb hr hlocks hP hD hS (n'_18, K'_19, P'_20, fu'_21, fa'_22) [(h, .inr (6, [.ref qk, .ref qp, .int (nI n'_18), .int (bz fu'_21), .int (bz fa'_22)])), (qk, .inl (cB, 3000, .inl K'_19)), (qp, .inl (cI, 18000, .inl P'_20))] [0, 1, 2] (rfl) (⟨hok_23.1, by rw [hok_23.2, beginD_y c_1 c_9]⟩) (rfl) rfl rfl (by omega) (by omega) d_MPath_begin_38
