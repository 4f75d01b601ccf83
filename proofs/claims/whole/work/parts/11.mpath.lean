set_option maxHeartbeats 4000000 in
set_option maxRecDepth 100000 in
/-- Path(): two new rows -/
theorem c_MPath_init (l : Launch) (D : va_G) (cI cB cJ : ClassId) (qQ : Nat) (h : Nat)  : ct l D cl [(cI, .int), (cB, .byte), (cJ, .long)] (amb qQ) y_MPath_init w_MPath_init 1 12 (2) (21000) [.ref h] [(h, .inr (6, [.null, .null, .int 0, .int 0, .int 0]))] (fun u_ : Nat × Nat => match u_ with | (qk, qp) => True) (fun u_ : Nat × Nat => match u_ with | (qk, qp) => none) (fun u_ : Nat × Nat => match u_ with | (qk, qp) => [(h, .inr (6, [.ref qk, .ref qp, .int (nI 0), .int (bz false), .int (bz false)])), (qk, .inl (cB, 3000, .inl (fun _ => 0))), (qp, .inl (cI, 18000, .inl (fun _ => 0)))]) := by
  refine ct_ofW (cc := b_MPath_init) (maxL := 1) (ret := none) (by decide) rfl (Nat.le_of_ble_eq_true rfl) ?_
  intro p e R s m args below meth c A Q ls hx hb hr hml hts hown hlocks hname hRf hRc hRs hRl hQ hK hP hD hS hA hM hl
  have hl : lv_has ls 1 [(0, .ref h)] := hl
  refine lv_aload_n hx hb d_MPath_init_0 rfl (lv_at hl 0 rfl) ?_
  refine W.objInit hx hb hown (hts _ (gwc gw_487)) (hts _ (gwc gw_42)) (hts _ (gwc gw_objc)) rfl (by rw [hml]; exact hl.1) rfl d_MPath_init_1 (by omega) (by rw [hRl]; exact Nat.le_of_ble_eq_true rfl) ?_
  refine W.eq (g2 := F0 m 4 ls []) rfl ?_
  refine lv_aload_n hx hb d_MPath_init_4 rfl (lv_at hl 0 rfl) ?_
  refine lv_sipush (v := 3000) hx hb d_MPath_init_5 (by decide) ?_
  refine na_b hx hb (hts _ (gwc gw_508)) hK hP hD hS hA 1 rfl 3000 (by omega) (by omega) (by omega) d_MPath_init_8 (fun q_1 H hP hD hS => ?_)
  have hP : va_P D cl [(h, .inr (6, [.null, .null, .int 0, .int 0, .int 0])), (q_1, .inl (cB, 3000, .inl (fun _ => 0)))] H := hP
  have hD : va_D A [(h, .inr (6, [.null, .null, .int 0, .int 0, .int 0])), (q_1, .inl (cB, 3000, .inl (fun _ => 0)))] := hD
  refine va_putF (D := D) (ci := 6) (v := .ref q_1) (ty := (.array .byte)) (C := R_MPath) (T := T_MPath) (N := 5) hx hb hts (ui_MPath _) t_MPath tk_MPath nk_MPath hown hK hP hD hS 0 rfl rfl 0 (by decide) (hts _ (gwc gw_488)) (fun _ h9 => h9) rfl hname rfl (by decide +kernel) rfl rfl (Nat.le_of_ble_eq_true rfl) d_MPath_init_10 (fun H locs hP hD hS => ?_)
  have hP : va_P D cl [(h, .inr (6, [.ref q_1, .null, .int 0, .int 0, .int 0])), (q_1, .inl (cB, 3000, .inl (fun _ => 0)))] H := hP
  have hD : va_D A [(h, .inr (6, [.ref q_1, .null, .int 0, .int 0, .int 0])), (q_1, .inl (cB, 3000, .inl (fun _ => 0)))] := hD
  refine lv_aload_n hx hb d_MPath_init_13 rfl (lv_at hl 0 rfl) ?_
  refine lv_sipush (v := 18000) hx hb d_MPath_init_14 (by decide) ?_
  refine na_i hx hb (hts _ (gwc gw_87)) hK hP hD hS hA 0 rfl 18000 (by omega) (by omega) (by omega) d_MPath_init_17 (fun q_2 H hP hD hS => ?_)
  have hP : va_P D cl [(h, .inr (6, [.ref q_1, .null, .int 0, .int 0, .int 0])), (q_1, .inl (cB, 3000, .inl (fun _ => 0))), (q_2, .inl (cI, 18000, .inl (fun _ => 0)))] H := hP
  have hD : va_D A [(h, .inr (6, [.ref q_1, .null, .int 0, .int 0, .int 0])), (q_1, .inl (cB, 3000, .inl (fun _ => 0))), (q_2, .inl (cI, 18000, .inl (fun _ => 0)))] := hD
  refine va_putF (D := D) (ci := 6) (v := .ref q_2) (ty := (.array .int)) (C := R_MPath) (T := T_MPath) (N := 5) hx hb hts (ui_MPath _) t_MPath tk_MPath nk_MPath hown hK hP hD hS 0 rfl rfl 1 (by decide) (hts _ (gwc gw_490)) (fun _ h9 => h9) rfl hname rfl (by decide +kernel) rfl rfl (Nat.le_of_ble_eq_true rfl) d_MPath_init_19 (fun H locs hP hD hS => ?_)
  have hP : va_P D cl [(h, .inr (6, [.ref q_1, .ref q_2, .int 0, .int 0, .int 0])), (q_1, .inl (cB, 3000, .inl (fun _ => 0))), (q_2, .inl (cI, 18000, .inl (fun _ => 0)))] H := hP
  have hD : va_D A [(h, .inr (6, [.ref q_1, .ref q_2, .int 0, .int 0, .int 0])), (q_1, .inl (cB, 3000, .inl (fun _ => 0))), (q_2, .inl (cI, 18000, .inl (fun _ => 0)))] := hD
  exact ct_retv hQ hx hb hr hlocks hP hD hS (q_1, q_2) [(h, .inr (6, [.ref q_1, .ref q_2, .int 0, .int 0, .int 0])), (q_1, .inl (cB, 3000, .inl (fun _ => 0))), (q_2, .inl (cI, 18000, .inl (fun _ => 0)))] [0, 1, 2] (rfl) (trivial) (rfl) rfl rfl (by omega) (by omega) d_MPath_init_22
set_option maxHeartbeats 4000000 in
set_option maxRecDepth 100000 in
/-- empty(): size 0, not full, not far -/
theorem c_MPath_empty (l : Launch) (D : va_G) (cI cB cJ : ClassId) (qQ : Nat) (h : Nat) (qk : Nat) (qp : Nat) (n : Nat) (K : Nat → Int32) (P : Nat → Int32) (fu : Bool) (fa : Bool)  : ct l D cl [(cI, .int), (cB, .byte), (cJ, .long)] (amb qQ) y_MPath_empty w_MPath_empty 0 0 (0) (0) [.ref h] [(h, .inr (6, [.ref qk, .ref qp, .int (nI n), .int (bz fu), .int (bz fa)])), (qk, .inl (cB, 3000, .inl K)), (qp, .inl (cI, 18000, .inl P))] (fun _ : Unit => True) (fun _ : Unit => none) (fun _ : Unit => [(h, .inr (6, [.ref qk, .ref qp, .int (nI 0), .int (bz false), .int (bz false)])), (qk, .inl (cB, 3000, .inl K)), (qp, .inl (cI, 18000, .inl P))]) := by
  refine ct_ofW (cc := b_MPath_empty) (maxL := 1) (ret := none) (by decide) rfl (Nat.le_of_ble_eq_true rfl) ?_
  intro p e R s m args below meth c A Q ls hx hb hr hml hts hown hlocks hname hRf hRc hRs hRl hQ hK hP hD hS hA hM hl
  have hl : lv_has ls 1 [(0, .ref h)] := hl
  refine lv_aload_n hx hb d_MPath_empty_0 rfl (lv_at hl 0 rfl) ?_
  refine lv_iconst (v := 0) hx hb d_MPath_empty_1 (by decide) ?_
  refine va_put (D := D) (ci := 6) (v := .int 0) (ty := .int) (C := R_MPath) (T := T_MPath) (N := 5) hx hb hts (ui_MPath _) t_MPath tk_MPath nk_MPath hown hK hP hD hS 0 rfl rfl 2 (by decide) (hts _ (gwc gw_491)) (fun _ h9 => h9) rfl (by decide +kernel) rfl rfl (Nat.le_of_ble_eq_true rfl) d_MPath_empty_2 (fun H locs hP hD hS => ?_)
  have hP : va_P D cl [(h, .inr (6, [.ref qk, .ref qp, .int 0, .int (bz fu), .int (bz fa)])), (qk, .inl (cB, 3000, .inl K)), (qp, .inl (cI, 18000, .inl P))] H := hP
  have hD : va_D A [(h, .inr (6, [.ref qk, .ref qp, .int 0, .int (bz fu), .int (bz fa)])), (qk, .inl (cB, 3000, .inl K)), (qp, .inl (cI, 18000, .inl P))] := hD
  refine lv_aload_n hx hb d_MPath_empty_5 rfl (lv_at hl 0 rfl) ?_
  refine lv_iconst (v := 0) hx hb d_MPath_empty_6 (by decide) ?_
  refine va_put (D := D) (ci := 6) (v := .int 0) (ty := .boolean) (C := R_MPath) (T := T_MPath) (N := 5) hx hb hts (ui_MPath _) t_MPath tk_MPath nk_MPath hown hK hP hD hS 0 rfl rfl 3 (by decide) (hts _ (gwc gw_493)) (fun _ h9 => h9) rfl (by decide +kernel) rfl rfl (Nat.le_of_ble_eq_true rfl) d_MPath_empty_7 (fun H locs hP hD hS => ?_)
  have hP : va_P D cl [(h, .inr (6, [.ref qk, .ref qp, .int 0, .int 0, .int (bz fa)])), (qk, .inl (cB, 3000, .inl K)), (qp, .inl (cI, 18000, .inl P))] H := hP
  have hD : va_D A [(h, .inr (6, [.ref qk, .ref qp, .int 0, .int 0, .int (bz fa)])), (qk, .inl (cB, 3000, .inl K)), (qp, .inl (cI, 18000, .inl P))] := hD
  refine lv_aload_n hx hb d_MPath_empty_10 rfl (lv_at hl 0 rfl) ?_
  refine lv_iconst (v := 0) hx hb d_MPath_empty_11 (by decide) ?_
  refine va_put (D := D) (ci := 6) (v := .int 0) (ty := .boolean) (C := R_MPath) (T := T_MPath) (N := 5) hx hb hts (ui_MPath _) t_MPath tk_MPath nk_MPath hown hK hP hD hS 0 rfl rfl 4 (by decide) (hts _ (gwc gw_496)) (fun _ h9 => h9) rfl (by decide +kernel) rfl rfl (Nat.le_of_ble_eq_true rfl) d_MPath_empty_12 (fun H locs hP hD hS => ?_)
  have hP : va_P D cl [(h, .inr (6, [.ref qk, .ref qp, .int 0, .int 0, .int 0])), (qk, .inl (cB, 3000, .inl K)), (qp, .inl (cI, 18000, .inl P))] H := hP
  have hD : va_D A [(h, .inr (6, [.ref qk, .ref qp, .int 0, .int 0, .int 0])), (qk, .inl (cB, 3000, .inl K)), (qp, .inl (cI, 18000, .inl P))] := hD
  exact ct_retv hQ hx hb hr hlocks hP hD hS () [(h, .inr (6, [.ref qk, .ref qp, .int 0, .int 0, .int 0])), (qk, .inl (cB, 3000, .inl K)), (qp, .inl (cI, 18000, .inl P))] [0, 1, 2] (rfl) (trivial) (rfl) rfl rfl (by omega) (by omega) d_MPath_empty_15
set_option maxHeartbeats 4000000 in
set_option maxRecDepth 100000 in
/-- get(i, w) -/
theorem c_MPath_get (l : Launch) (D : va_G) (cI cB cJ : ClassId) (qQ : Nat) (h : Nat) (qk : Nat) (qp : Nat) (n : Nat) (K : Nat → Int32) (P : Nat → Int32) (fu : Bool) (fa : Bool) (i : Nat) (w : Nat) (hi : i < 3000) (hw : w < 6) : ct l D cl [(cI, .int), (cB, .byte), (cJ, .long)] (amb qQ) y_MPath_get w_MPath_get 0 0 (0) (0) [.ref h, .int (nI i), .int (nI w)] [(h, .inr (6, [.ref qk, .ref qp, .int (nI n), .int (bz fu), .int (bz fa)])), (qk, .inl (cB, 3000, .inl K)), (qp, .inl (cI, 18000, .inl P))] (fun _ : Unit => True) (fun _ : Unit => some (.int (P (6 * i + w)))) (fun _ : Unit => [(h, .inr (6, [.ref qk, .ref qp, .int (nI n), .int (bz fu), .int (bz fa)])), (qk, .inl (cB, 3000, .inl K)), (qp, .inl (cI, 18000, .inl P))]) := by
  refine ct_ofW (cc := b_MPath_get) (maxL := 3) (ret := (some .int)) (by decide) rfl (Nat.le_of_ble_eq_true rfl) ?_
  intro p e R s m args below meth c A Q ls hx hb hr hml hts hown hlocks hname hRf hRc hRs hRl hQ hK hP hD hS hA hM hl
  have hl : lv_has ls 3 [(0, .ref h), (1, .int (nI i)), (2, .int (nI w))] := hl
  refine lv_aload_n hx hb d_MPath_get_0 rfl (lv_at hl 0 rfl) ?_
  refine va_get (D := D) (ci := 6) (v := .ref qp) (C := R_MPath) (T := T_MPath) (N := 5) hx hb hts (ui_MPath _) hown hK hP 0 rfl rfl 1 (by decide) (hts _ (gwc gw_490)) (fun _ h9 => h9) rfl d_MPath_get_1 ?_
  refine lv_bipush (v := 6) hx hb d_MPath_get_4 (by decide) ?_
  refine lv_iload_n hx hb d_MPath_get_6 rfl (lv_at hl 1 rfl) ?_
  refine lv_imul hx hb d_MPath_get_7 ?_
  refine tp_i (nI (6 * i)) (pk_mul _ _) ?_
  refine lv_iload_n hx hb d_MPath_get_8 rfl (lv_at hl 2 rfl) ?_
  refine lv_iadd hx hb d_MPath_get_9 ?_
  refine tp_i (nI (6 * i + w)) (nI_add _ _) ?_
  refine ld_i hx hb hK hP 2 0 rfl rfl (6 * i + w) (by omega) (by omega) d_MPath_get_10 ?_
  exact ct_reti hQ hx hb hr hlocks hP hD hS () [(h, .inr (6, [.ref qk, .ref qp, .int (nI n), .int (bz fu), .int (bz fa)])), (qk, .inl (cB, 3000, .inl K)), (qp, .inl (cI, 18000, .inl P))] [0, 1, 2] (rfl) (trivial) (rfl) rfl rfl (by omega) (by omega) d_MPath_get_11
set_option maxHeartbeats 4000000 in
set_option maxRecDepth 100000 in
/-- isFar(v) -/
theorem c_MPath_isFar (l : Launch) (D : va_G) (cI cB cJ : ClassId) (qQ : Nat) (v : Int64)  : ct l D cl [(cI, .int), (cB, .byte), (cJ, .long)] (amb qQ) y_MPath_isFar w_MPath_isFar 0 0 (0) (0) [.long v] [] (fun _ : Unit => True) (fun _ : Unit => some (.int (bz (fr v)))) (fun _ : Unit => []) := by
  refine ct_ofW (cc := b_MPath_isFar) (maxL := 2) (ret := (some .boolean)) (by decide) rfl (Nat.le_of_ble_eq_true rfl) ?_
  intro p e R s m args below meth c A Q ls hx hb hr hml hts hown hlocks hname hRf hRc hRs hRl hQ hK hP hD hS hA hM hl
  have hl : lv_has ls 2 [(0, .long v)] := hl
  refine lv_lload_n hx hb d_MPath_isFar_0 rfl (lv_at hl 0 rfl) ?_
  refine lv_ldc2 (v := (-536870912)) hx hb hown (hts _ (gwc gw_571)) d_MPath_isFar_1 ?_
  refine W.lcmp hx hb d_MPath_isFar_4 ?_
  refine lc_lt (tgt := 16) hx hb d_MPath_isFar_5 (by decide) (fun c_1 => ?_) (fun c_1 => ?_)
  · skip
    refine lv_iconst (v := 1) hx hb d_MPath_isFar_16 (by decide) ?_
    refine lv_goto (tgt := 21) hx hb d_MPath_isFar_17 (by decide) ?_
    exact ct_retz hQ hx hb hr hlocks hP hD hS () [] [] (by simp [fr, bz, c_1]) (trivial) (rfl) rfl rfl (by decide) (by omega) (by omega) d_MPath_isFar_21
  · skip
    refine lv_lload_n hx hb d_MPath_isFar_8 rfl (lv_at hl 0 rfl) ?_
    refine lv_ldc2 (v := 536870912) hx hb hown (hts _ (gwc gw_572)) d_MPath_isFar_9 ?_
    refine W.lcmp hx hb d_MPath_isFar_12 ?_
    refine lc_le (tgt := 20) hx hb d_MPath_isFar_13 (by decide) (fun c_2 => ?_) (fun c_2 => ?_)
    · skip
      refine lv_iconst (v := 0) hx hb d_MPath_isFar_20 (by decide) ?_
      exact ct_retz hQ hx hb hr hlocks hP hD hS () [] [] (by simp [fr, bz, c_1, c_2]) (trivial) (rfl) rfl rfl (by decide) (by omega) (by omega) d_MPath_isFar_21
    · skip
      refine lv_iconst (v := 1) hx hb d_MPath_isFar_16 (by decide) ?_
      refine lv_goto (tgt := 21) hx hb d_MPath_isFar_17 (by decide) ?_
      exact ct_retz hQ hx hb hr hlocks hP hD hS () [] [] (by simp [fr, bz, c_1, c_2]) (trivial) (rfl) rfl rfl (by decide) (by omega) (by omega) d_MPath_isFar_21
set_option maxHeartbeats 4000000 in
set_option maxRecDepth 100000 in
/-- add(..): a part more, or full; far is remembered -/
theorem c_MPath_add (l : Launch) (D : va_G) (cI cB cJ : ClassId) (qQ : Nat) (h : Nat) (qk : Nat) (qp : Nat) (n : Nat) (K : Nat → Int32) (P : Nat → Int32) (fu : Bool) (fa : Bool) (kd : Int32) (x : Int64) (y : Int64) (x1 : Int64) (y1 : Int64) (x2 : Int64) (y2 : Int64) (hn : n ≤ 3000) (hk : kok kd) : ct l D cl [(cI, .int), (cB, .byte), (cJ, .long)] (amb qQ) y_MPath_add w_MPath_add 1 21 (0) (0) [.ref h, .int kd, .long x, .long y, .long x1, .long y1, .long x2, .long y2] [(h, .inr (6, [.ref qk, .ref qp, .int (nI n), .int (bz fu), .int (bz fa)])), (qk, .inl (cB, 3000, .inl K)), (qp, .inl (cI, 18000, .inl P))] (fun u_ : Nat × (Nat → Int32) × (Nat → Int32) × Bool × Bool => match u_ with | (n', K', P', fu', fa') => n' ≤ 3000 ∧ (lst n' K' P', fu', fa') = addD (lst n K P, fu, fa) kd x y x1 y1 x2 y2) (fun u_ : Nat × (Nat → Int32) × (Nat → Int32) × Bool × Bool => match u_ with | (n', K', P', fu', fa') => none) (fun u_ : Nat × (Nat → Int32) × (Nat → Int32) × Bool × Bool => match u_ with | (n', K', P', fu', fa') => [(h, .inr (6, [.ref qk, .ref qp, .int (nI n'), .int (bz fu'), .int (bz fa')])), (qk, .inl (cB, 3000, .inl K')), (qp, .inl (cI, 18000, .inl P'))]) := by
  refine ct_ofW (cc := b_MPath_add) (maxL := 14) (ret := none) (by decide) rfl (Nat.le_of_ble_eq_true rfl) ?_
  intro p e R s m args below meth c A Q ls hx hb hr hml hts hown hlocks hname hRf hRc hRs hRl hQ hK hP hD hS hA hM hl
  have hl : lv_has ls 14 [(0, .ref h), (1, .int kd), (2, .long x), (4, .long y), (6, .long x1), (8, .long y1), (10, .long x2), (12, .long y2)] := hl
  have L_60 : ∀ (v : Int32), (v = bz (fa || fr x || fr y || fr x1 || fr y1 || fr x2 || fr y2)) → ∀ (H : Heap) (locs : List Loc) (ls : Array Slot), va_P D cl [(h, .inr (6, [.ref qk, .ref qp, .int (nI n), .int (bz fu), .int (bz fa)])), (qk, .inl (cB, 3000, .inl K)), (qp, .inl (cI, 18000, .inl P))] H → va_D A [(h, .inr (6, [.ref qk, .ref qp, .int (nI n), .int (bz fu), .int (bz fa)])), (qk, .inl (cB, 3000, .inl K)), (qp, .inl (cI, 18000, .inl P))] → va_S A s.heap H locs → lv_has ls 14 [(0, .ref h), (1, .int kd), (2, .long x), (4, .long y), (6, .long x1), (8, .long y1), (10, .long x2), (12, .long y2)] → W p l e R s m args below meth c H locs (0) (0) Q (F0 m 60 ls [.int v, .ref h]) := by
    intro v hv H locs ls hP hD hS hl
    subst hv
    refine va_put (D := D) (ci := 6) (v := .int (bz (fa || fr x || fr y || fr x1 || fr y1 || fr x2 || fr y2))) (ty := .boolean) (C := R_MPath) (T := T_MPath) (N := 5) hx hb hts (ui_MPath _) t_MPath tk_MPath nk_MPath hown hK hP hD hS 0 rfl rfl 4 (by decide) (hts _ (gwc gw_496)) (fun _ h9 => h9) rfl (by decide +kernel) (bz_nar _) (bz_fit _) (Nat.le_of_ble_eq_true rfl) d_MPath_add_60 (fun H locs hP hD hS => ?_)
    have hP : va_P D cl [(h, .inr (6, [.ref qk, .ref qp, .int (nI n), .int (bz fu), .int (bz (fa || fr x || fr y || fr x1 || fr y1 || fr x2 || fr y2))])), (qk, .inl (cB, 3000, .inl K)), (qp, .inl (cI, 18000, .inl P))] H := hP
    have hD : va_D A [(h, .inr (6, [.ref qk, .ref qp, .int (nI n), .int (bz fu), .int (bz (fa || fr x || fr y || fr x1 || fr y1 || fr x2 || fr y2))])), (qk, .inl (cB, 3000, .inl K)), (qp, .inl (cI, 18000, .inl P))] := hD
    refine lv_aload_n hx hb d_MPath_add_63 rfl (lv_at hl 0 rfl) ?_
    refine va_get (D := D) (ci := 6) (v := .int (nI n)) (C := R_MPath) (T := T_MPath) (N := 5) hx hb hts (ui_MPath _) hown hK hP 0 rfl rfl 2 (by decide) (hts _ (gwc gw_491)) (fun _ h9 => h9) rfl d_MPath_add_64 ?_
    refine lv_sipush (v := 3000) hx hb d_MPath_add_67 (by decide) ?_
    refine bn_ne (a1 := n) (b1 := 3000) (tgt := 79) hx hb (by omega) (by omega) d_MPath_add_70 (by decide) (fun c_1 => ?_) (fun c_1 => ?_)
    · skip
      have c_FULL : ¬ n = 3000 := c_1
      refine lv_aload_n hx hb d_MPath_add_79 rfl (lv_at hl 0 rfl) ?_
      refine va_get (D := D) (ci := 6) (v := .ref qk) (C := R_MPath) (T := T_MPath) (N := 5) hx hb hts (ui_MPath _) hown hK hP 0 rfl rfl 0 (by decide) (hts _ (gwc gw_488)) (fun _ h9 => h9) rfl d_MPath_add_80 ?_
      refine lv_aload_n hx hb d_MPath_add_83 rfl (lv_at hl 0 rfl) ?_
      refine va_get (D := D) (ci := 6) (v := .int (nI n)) (C := R_MPath) (T := T_MPath) (N := 5) hx hb hts (ui_MPath _) hown hK hP 0 rfl rfl 2 (by decide) (hts _ (gwc gw_491)) (fun _ h9 => h9) rfl d_MPath_add_84 ?_
      refine lv_iload_n hx hb d_MPath_add_87 rfl (lv_at hl 1 rfl) ?_
      refine lv_i2b (v := kd.toInt8.toInt32) hx hb d_MPath_add_88 rfl ?_
      refine tp_i (kd) (kok_i hk) ?_
      refine st_b hx hb hK hP hD hS 1 1 rfl rfl n (kok_b hk) (by omega) (by omega) d_MPath_add_89 (fun H locs hP hD hS => ?_)
      have hP : va_P D cl [(h, .inr (6, [.ref qk, .ref qp, .int (nI n), .int (bz fu), .int (bz (fa || fr x || fr y || fr x1 || fr y1 || fr x2 || fr y2))])), (qk, .inl (cB, 3000, .inl (upd K n kd))), (qp, .inl (cI, 18000, .inl P))] H := hP
      have hD : va_D A [(h, .inr (6, [.ref qk, .ref qp, .int (nI n), .int (bz fu), .int (bz (fa || fr x || fr y || fr x1 || fr y1 || fr x2 || fr y2))])), (qk, .inl (cB, 3000, .inl (upd K n kd))), (qp, .inl (cI, 18000, .inl P))] := hD
      refine lv_aload_n hx hb d_MPath_add_90 rfl (lv_at hl 0 rfl) ?_
      refine va_get (D := D) (ci := 6) (v := .ref qp) (C := R_MPath) (T := T_MPath) (N := 5) hx hb hts (ui_MPath _) hown hK hP 0 rfl rfl 1 (by decide) (hts _ (gwc gw_490)) (fun _ h9 => h9) rfl d_MPath_add_91 ?_
      refine lv_bipush (v := 6) hx hb d_MPath_add_94 (by decide) ?_
      refine lv_aload_n hx hb d_MPath_add_96 rfl (lv_at hl 0 rfl) ?_
      refine va_get (D := D) (ci := 6) (v := .int (nI n)) (C := R_MPath) (T := T_MPath) (N := 5) hx hb hts (ui_MPath _) hown hK hP 0 rfl rfl 2 (by decide) (hts _ (gwc gw_491)) (fun _ h9 => h9) rfl d_MPath_add_97 ?_
      refine lv_imul hx hb d_MPath_add_100 ?_
      refine tp_i (nI (6 * n)) (pk_mul _ _) ?_
      refine lv_lload_n hx hb d_MPath_add_101 rfl (lv_at hl 2 rfl) ?_
      refine lv_l2i (v := x.toInt32) hx hb d_MPath_add_102 rfl ?_
      refine st_i hx hb hK hP hD hS 2 0 rfl rfl (6 * n) (by omega) (by omega) d_MPath_add_103 (fun H locs hP hD hS => ?_)
      have hP : va_P D cl [(h, .inr (6, [.ref qk, .ref qp, .int (nI n), .int (bz fu), .int (bz (fa || fr x || fr y || fr x1 || fr y1 || fr x2 || fr y2))])), (qk, .inl (cB, 3000, .inl (upd K n kd))), (qp, .inl (cI, 18000, .inl (upd P (6 * n) x.toInt32)))] H := hP
      have hD : va_D A [(h, .inr (6, [.ref qk, .ref qp, .int (nI n), .int (bz fu), .int (bz (fa || fr x || fr y || fr x1 || fr y1 || fr x2 || fr y2))])), (qk, .inl (cB, 3000, .inl (upd K n kd))), (qp, .inl (cI, 18000, .inl (upd P (6 * n) x.toInt32)))] := hD
      refine lv_aload_n hx hb d_MPath_add_104 rfl (lv_at hl 0 rfl) ?_
      refine va_get (D := D) (ci := 6) (v := .ref qp) (C := R_MPath) (T := T_MPath) (N := 5) hx hb hts (ui_MPath _) hown hK hP 0 rfl rfl 1 (by decide) (hts _ (gwc gw_490)) (fun _ h9 => h9) rfl d_MPath_add_105 ?_
      refine lv_bipush (v := 6) hx hb d_MPath_add_108 (by decide) ?_
      refine lv_aload_n hx hb d_MPath_add_110 rfl (lv_at hl 0 rfl) ?_
      refine va_get (D := D) (ci := 6) (v := .int (nI n)) (C := R_MPath) (T := T_MPath) (N := 5) hx hb hts (ui_MPath _) hown hK hP 0 rfl rfl 2 (by decide) (hts _ (gwc gw_491)) (fun _ h9 => h9) rfl d_MPath_add_111 ?_
      refine lv_imul hx hb d_MPath_add_114 ?_
      refine tp_i (nI (6 * n)) (pk_mul _ _) ?_
      refine lv_iconst (v := 1) hx hb d_MPath_add_115 (by decide) ?_
      refine lv_iadd hx hb d_MPath_add_116 ?_
      refine tp_i (nI (6 * n + 1)) (nI_add _ _) ?_
      refine lv_lload hx hb d_MPath_add_117 (lv_at hl 3 rfl) ?_
      refine lv_l2i (v := y.toInt32) hx hb d_MPath_add_119 rfl ?_
      refine st_i hx hb hK hP hD hS 2 0 rfl rfl (6 * n + 1) (by omega) (by omega) d_MPath_add_120 (fun H locs hP hD hS => ?_)
      have hP : va_P D cl [(h, .inr (6, [.ref qk, .ref qp, .int (nI n), .int (bz fu), .int (bz (fa || fr x || fr y || fr x1 || fr y1 || fr x2 || fr y2))])), (qk, .inl (cB, 3000, .inl (upd K n kd))), (qp, .inl (cI, 18000, .inl (upd (upd P (6 * n) x.toInt32) (6 * n + 1) y.toInt32)))] H := hP
      have hD : va_D A [(h, .inr (6, [.ref qk, .ref qp, .int (nI n), .int (bz fu), .int (bz (fa || fr x || fr y || fr x1 || fr y1 || fr x2 || fr y2))])), (qk, .inl (cB, 3000, .inl (upd K n kd))), (qp, .inl (cI, 18000, .inl (upd (upd P (6 * n) x.toInt32) (6 * n + 1) y.toInt32)))] := hD
      refine lv_aload_n hx hb d_MPath_add_121 rfl (lv_at hl 0 rfl) ?_
      refine va_get (D := D) (ci := 6) (v := .ref qp) (C := R_MPath) (T := T_MPath) (N := 5) hx hb hts (ui_MPath _) hown hK hP 0 rfl rfl 1 (by decide) (hts _ (gwc gw_490)) (fun _ h9 => h9) rfl d_MPath_add_122 ?_
      refine lv_bipush (v := 6) hx hb d_MPath_add_125 (by decide) ?_
      refine lv_aload_n hx hb d_MPath_add_127 rfl (lv_at hl 0 rfl) ?_
      refine va_get (D := D) (ci := 6) (v := .int (nI n)) (C := R_MPath) (T := T_MPath) (N := 5) hx hb hts (ui_MPath _) hown hK hP 0 rfl rfl 2 (by decide) (hts _ (gwc gw_491)) (fun _ h9 => h9) rfl d_MPath_add_128 ?_
      refine lv_imul hx hb d_MPath_add_131 ?_
      refine tp_i (nI (6 * n)) (pk_mul _ _) ?_
      refine lv_iconst (v := 2) hx hb d_MPath_add_132 (by decide) ?_
      refine lv_iadd hx hb d_MPath_add_133 ?_
      refine tp_i (nI (6 * n + 2)) (nI_add _ _) ?_
      refine lv_lload hx hb d_MPath_add_134 (lv_at hl 4 rfl) ?_
      refine lv_l2i (v := x1.toInt32) hx hb d_MPath_add_136 rfl ?_
      refine st_i hx hb hK hP hD hS 2 0 rfl rfl (6 * n + 2) (by omega) (by omega) d_MPath_add_137 (fun H locs hP hD hS => ?_)
      have hP : va_P D cl [(h, .inr (6, [.ref qk, .ref qp, .int (nI n), .int (bz fu), .int (bz (fa || fr x || fr y || fr x1 || fr y1 || fr x2 || fr y2))])), (qk, .inl (cB, 3000, .inl (upd K n kd))), (qp, .inl (cI, 18000, .inl (upd (upd (upd P (6 * n) x.toInt32) (6 * n + 1) y.toInt32) (6 * n + 2) x1.toInt32)))] H := hP
      have hD : va_D A [(h, .inr (6, [.ref qk, .ref qp, .int (nI n), .int (bz fu), .int (bz (fa || fr x || fr y || fr x1 || fr y1 || fr x2 || fr y2))])), (qk, .inl (cB, 3000, .inl (upd K n kd))), (qp, .inl (cI, 18000, .inl (upd (upd (upd P (6 * n) x.toInt32) (6 * n + 1) y.toInt32) (6 * n + 2) x1.toInt32)))] := hD
      refine lv_aload_n hx hb d_MPath_add_138 rfl (lv_at hl 0 rfl) ?_
      refine va_get (D := D) (ci := 6) (v := .ref qp) (C := R_MPath) (T := T_MPath) (N := 5) hx hb hts (ui_MPath _) hown hK hP 0 rfl rfl 1 (by decide) (hts _ (gwc gw_490)) (fun _ h9 => h9) rfl d_MPath_add_139 ?_
      refine lv_bipush (v := 6) hx hb d_MPath_add_142 (by decide) ?_
      refine lv_aload_n hx hb d_MPath_add_144 rfl (lv_at hl 0 rfl) ?_
      refine va_get (D := D) (ci := 6) (v := .int (nI n)) (C := R_MPath) (T := T_MPath) (N := 5) hx hb hts (ui_MPath _) hown hK hP 0 rfl rfl 2 (by decide) (hts _ (gwc gw_491)) (fun _ h9 => h9) rfl d_MPath_add_145 ?_
      refine lv_imul hx hb d_MPath_add_148 ?_
      refine tp_i (nI (6 * n)) (pk_mul _ _) ?_
      refine lv_iconst (v := 3) hx hb d_MPath_add_149 (by decide) ?_
      refine lv_iadd hx hb d_MPath_add_150 ?_
      refine tp_i (nI (6 * n + 3)) (nI_add _ _) ?_
      refine lv_lload hx hb d_MPath_add_151 (lv_at hl 5 rfl) ?_
      refine lv_l2i (v := y1.toInt32) hx hb d_MPath_add_153 rfl ?_
      refine st_i hx hb hK hP hD hS 2 0 rfl rfl (6 * n + 3) (by omega) (by omega) d_MPath_add_154 (fun H locs hP hD hS => ?_)
      have hP : va_P D cl [(h, .inr (6, [.ref qk, .ref qp, .int (nI n), .int (bz fu), .int (bz (fa || fr x || fr y || fr x1 || fr y1 || fr x2 || fr y2))])), (qk, .inl (cB, 3000, .inl (upd K n kd))), (qp, .inl (cI, 18000, .inl (upd (upd (upd (upd P (6 * n) x.toInt32) (6 * n + 1) y.toInt32) (6 * n + 2) x1.toInt32) (6 * n + 3) y1.toInt32)))] H := hP
      have hD : va_D A [(h, .inr (6, [.ref qk, .ref qp, .int (nI n), .int (bz fu), .int (bz (fa || fr x || fr y || fr x1 || fr y1 || fr x2 || fr y2))])), (qk, .inl (cB, 3000, .inl (upd K n kd))), (qp, .inl (cI, 18000, .inl (upd (upd (upd (upd P (6 * n) x.toInt32) (6 * n + 1) y.toInt32) (6 * n + 2) x1.toInt32) (6 * n + 3) y1.toInt32)))] := hD
      refine lv_aload_n hx hb d_MPath_add_155 rfl (lv_at hl 0 rfl) ?_
      refine va_get (D := D) (ci := 6) (v := .ref qp) (C := R_MPath) (T := T_MPath) (N := 5) hx hb hts (ui_MPath _) hown hK hP 0 rfl rfl 1 (by decide) (hts _ (gwc gw_490)) (fun _ h9 => h9) rfl d_MPath_add_156 ?_
      refine lv_bipush (v := 6) hx hb d_MPath_add_159 (by decide) ?_
      refine lv_aload_n hx hb d_MPath_add_161 rfl (lv_at hl 0 rfl) ?_
      refine va_get (D := D) (ci := 6) (v := .int (nI n)) (C := R_MPath) (T := T_MPath) (N := 5) hx hb hts (ui_MPath _) hown hK hP 0 rfl rfl 2 (by decide) (hts _ (gwc gw_491)) (fun _ h9 => h9) rfl d_MPath_add_162 ?_
      refine lv_imul hx hb d_MPath_add_165 ?_
      refine tp_i (nI (6 * n)) (pk_mul _ _) ?_
      refine lv_iconst (v := 4) hx hb d_MPath_add_166 (by decide) ?_
      refine lv_iadd hx hb d_MPath_add_167 ?_
      refine tp_i (nI (6 * n + 4)) (nI_add _ _) ?_
      refine lv_lload hx hb d_MPath_add_168 (lv_at hl 6 rfl) ?_
      refine lv_l2i (v := x2.toInt32) hx hb d_MPath_add_170 rfl ?_
      refine st_i hx hb hK hP hD hS 2 0 rfl rfl (6 * n + 4) (by omega) (by omega) d_MPath_add_171 (fun H locs hP hD hS => ?_)
      have hP : va_P D cl [(h, .inr (6, [.ref qk, .ref qp, .int (nI n), .int (bz fu), .int (bz (fa || fr x || fr y || fr x1 || fr y1 || fr x2 || fr y2))])), (qk, .inl (cB, 3000, .inl (upd K n kd))), (qp, .inl (cI, 18000, .inl (upd (upd (upd (upd (upd P (6 * n) x.toInt32) (6 * n + 1) y.toInt32) (6 * n + 2) x1.toInt32) (6 * n + 3) y1.toInt32) (6 * n + 4) x2.toInt32)))] H := hP
      have hD : va_D A [(h, .inr (6, [.ref qk, .ref qp, .int (nI n), .int (bz fu), .int (bz (fa || fr x || fr y || fr x1 || fr y1 || fr x2 || fr y2))])), (qk, .inl (cB, 3000, .inl (upd K n kd))), (qp, .inl (cI, 18000, .inl (upd (upd (upd (upd (upd P (6 * n) x.toInt32) (6 * n + 1) y.toInt32) (6 * n + 2) x1.toInt32) (6 * n + 3) y1.toInt32) (6 * n + 4) x2.toInt32)))] := hD
      refine lv_aload_n hx hb d_MPath_add_172 rfl (lv_at hl 0 rfl) ?_
      refine va_get (D := D) (ci := 6) (v := .ref qp) (C := R_MPath) (T := T_MPath) (N := 5) hx hb hts (ui_MPath _) hown hK hP 0 rfl rfl 1 (by decide) (hts _ (gwc gw_490)) (fun _ h9 => h9) rfl d_MPath_add_173 ?_
      refine lv_bipush (v := 6) hx hb d_MPath_add_176 (by decide) ?_
      refine lv_aload_n hx hb d_MPath_add_178 rfl (lv_at hl 0 rfl) ?_
      refine va_get (D := D) (ci := 6) (v := .int (nI n)) (C := R_MPath) (T := T_MPath) (N := 5) hx hb hts (ui_MPath _) hown hK hP 0 rfl rfl 2 (by decide) (hts _ (gwc gw_491)) (fun _ h9 => h9) rfl d_MPath_add_179 ?_
      refine lv_imul hx hb d_MPath_add_182 ?_
      refine tp_i (nI (6 * n)) (pk_mul _ _) ?_
      refine lv_iconst (v := 5) hx hb d_MPath_add_183 (by decide) ?_
      refine lv_iadd hx hb d_MPath_add_184 ?_
      refine tp_i (nI (6 * n + 5)) (nI_add _ _) ?_
      refine lv_lload hx hb d_MPath_add_185 (lv_at hl 7 rfl) ?_
      refine lv_l2i (v := y2.toInt32) hx hb d_MPath_add_187 rfl ?_
      refine st_i hx hb hK hP hD hS 2 0 rfl rfl (6 * n + 5) (by omega) (by omega) d_MPath_add_188 (fun H locs hP hD hS => ?_)
      have hP : va_P D cl [(h, .inr (6, [.ref qk, .ref qp, .int (nI n), .int (bz fu), .int (bz (fa || fr x || fr y || fr x1 || fr y1 || fr x2 || fr y2))])), (qk, .inl (cB, 3000, .inl (upd K n kd))), (qp, .inl (cI, 18000, .inl (upd (upd (upd (upd (upd (upd P (6 * n) x.toInt32) (6 * n + 1) y.toInt32) (6 * n + 2) x1.toInt32) (6 * n + 3) y1.toInt32) (6 * n + 4) x2.toInt32) (6 * n + 5) y2.toInt32)))] H := hP
      have hD : va_D A [(h, .inr (6, [.ref qk, .ref qp, .int (nI n), .int (bz fu), .int (bz (fa || fr x || fr y || fr x1 || fr y1 || fr x2 || fr y2))])), (qk, .inl (cB, 3000, .inl (upd K n kd))), (qp, .inl (cI, 18000, .inl (upd (upd (upd (upd (upd (upd P (6 * n) x.toInt32) (6 * n + 1) y.toInt32) (6 * n + 2) x1.toInt32) (6 * n + 3) y1.toInt32) (6 * n + 4) x2.toInt32) (6 * n + 5) y2.toInt32)))] := hD
      refine lv_aload_n hx hb d_MPath_add_189 rfl (lv_at hl 0 rfl) ?_
      refine lv_dup hx hb d_MPath_add_190 rfl ?_
      refine va_get (D := D) (ci := 6) (v := .int (nI n)) (C := R_MPath) (T := T_MPath) (N := 5) hx hb hts (ui_MPath _) hown hK hP 0 rfl rfl 2 (by decide) (hts _ (gwc gw_491)) (fun _ h9 => h9) rfl d_MPath_add_191 ?_
      refine lv_iconst (v := 1) hx hb d_MPath_add_194 (by decide) ?_
      refine lv_iadd hx hb d_MPath_add_195 ?_
      refine tp_i (nI (n + 1)) (nI_add _ _) ?_
      refine va_put (D := D) (ci := 6) (v := .int (nI (n + 1))) (ty := .int) (C := R_MPath) (T := T_MPath) (N := 5) hx hb hts (ui_MPath _) t_MPath tk_MPath nk_MPath hown hK hP hD hS 0 rfl rfl 2 (by decide) (hts _ (gwc gw_491)) (fun _ h9 => h9) rfl (by decide +kernel) rfl rfl (Nat.le_of_ble_eq_true rfl) d_MPath_add_196 (fun H locs hP hD hS => ?_)
      have hP : va_P D cl [(h, .inr (6, [.ref qk, .ref qp, .int (nI (n + 1)), .int (bz fu), .int (bz (fa || fr x || fr y || fr x1 || fr y1 || fr x2 || fr y2))])), (qk, .inl (cB, 3000, .inl (upd K n kd))), (qp, .inl (cI, 18000, .inl (upd (upd (upd (upd (upd (upd P (6 * n) x.toInt32) (6 * n + 1) y.toInt32) (6 * n + 2) x1.toInt32) (6 * n + 3) y1.toInt32) (6 * n + 4) x2.toInt32) (6 * n + 5) y2.toInt32)))] H := hP
      have hD : va_D A [(h, .inr (6, [.ref qk, .ref qp, .int (nI (n + 1)), .int (bz fu), .int (bz (fa || fr x || fr y || fr x1 || fr y1 || fr x2 || fr y2))])), (qk, .inl (cB, 3000, .inl (upd K n kd))), (qp, .inl (cI, 18000, .inl (upd (upd (upd (upd (upd (upd P (6 * n) x.toInt32) (6 * n + 1) y.toInt32) (6 * n + 2) x1.toInt32) (6 * n + 3) y1.toInt32) (6 * n + 4) x2.toInt32) (6 * n + 5) y2.toInt32)))] := hD
      exact ct_retv hQ hx hb hr hlocks hP hD hS (n + 1, upd K n kd, upd (upd (upd (upd (upd (upd P (6 * n) x.toInt32) (6 * n + 1) y.toInt32) (6 * n + 2) x1.toInt32) (6 * n + 3) y1.toInt32) (6 * n + 4) x2.toInt32) (6 * n + 5) y2.toInt32, fu, fa || fr x || fr y || fr x1 || fr y1 || fr x2 || fr y2) [(h, .inr (6, [.ref qk, .ref qp, .int (nI (n + 1)), .int (bz fu), .int (bz (fa || fr x || fr y || fr x1 || fr y1 || fr x2 || fr y2))])), (qk, .inl (cB, 3000, .inl (upd K n kd))), (qp, .inl (cI, 18000, .inl (upd (upd (upd (upd (upd (upd P (6 * n) x.toInt32) (6 * n + 1) y.toInt32) (6 * n + 2) x1.toInt32) (6 * n + 3) y1.toInt32) (6 * n + 4) x2.toInt32) (6 * n + 5) y2.toInt32)))] [0, 1, 2] (rfl) (⟨by omega, by rw [lst_snoc]; simp [addD, lst_len, c_FULL]⟩) (rfl) rfl rfl (by omega) (by omega) d_MPath_add_199
    · skip
      have c_FULL : n = 3000 := c_1
      refine lv_aload_n hx hb d_MPath_add_73 rfl (lv_at hl 0 rfl) ?_
      refine lv_iconst (v := 1) hx hb d_MPath_add_74 (by decide) ?_
      refine va_put (D := D) (ci := 6) (v := .int 1) (ty := .boolean) (C := R_MPath) (T := T_MPath) (N := 5) hx hb hts (ui_MPath _) t_MPath tk_MPath nk_MPath hown hK hP hD hS 0 rfl rfl 3 (by decide) (hts _ (gwc gw_493)) (fun _ h9 => h9) rfl (by decide +kernel) rfl rfl (Nat.le_of_ble_eq_true rfl) d_MPath_add_75 (fun H locs hP hD hS => ?_)
      have hP : va_P D cl [(h, .inr (6, [.ref qk, .ref qp, .int (nI n), .int 1, .int (bz (fa || fr x || fr y || fr x1 || fr y1 || fr x2 || fr y2))])), (qk, .inl (cB, 3000, .inl K)), (qp, .inl (cI, 18000, .inl P))] H := hP
      have hD : va_D A [(h, .inr (6, [.ref qk, .ref qp, .int (nI n), .int 1, .int (bz (fa || fr x || fr y || fr x1 || fr y1 || fr x2 || fr y2))])), (qk, .inl (cB, 3000, .inl K)), (qp, .inl (cI, 18000, .inl P))] := hD
      exact ct_retv hQ hx hb hr hlocks hP hD hS (n, K, P, true, fa || fr x || fr y || fr x1 || fr y1 || fr x2 || fr y2) [(h, .inr (6, [.ref qk, .ref qp, .int (nI n), .int 1, .int (bz (fa || fr x || fr y || fr x1 || fr y1 || fr x2 || fr y2))])), (qk, .inl (cB, 3000, .inl K)), (qp, .inl (cI, 18000, .inl P))] [0, 1, 2] (rfl) (⟨hn, by simp [addD, lst_len, c_FULL]⟩) (rfl) rfl rfl (by omega) (by omega) d_MPath_add_78
  refine lv_aload_n hx hb d_MPath_add_0 rfl (lv_at hl 0 rfl) ?_
  refine lv_aload_n hx hb d_MPath_add_1 rfl (lv_at hl 0 rfl) ?_
  refine va_get (D := D) (ci := 6) (v := .int (bz fa)) (C := R_MPath) (T := T_MPath) (N := 5) hx hb hts (ui_MPath _) hown hK hP 0 rfl rfl 4 (by decide) (hts _ (gwc gw_496)) (fun _ h9 => h9) rfl d_MPath_add_2 ?_
  refine bb_ne (tgt := 55) hx hb d_MPath_add_5 (by decide) (fun c_2 => ?_) (fun c_2 => ?_)
  · skip
    refine lv_iconst (v := 1) hx hb d_MPath_add_55 (by decide) ?_
    refine lv_goto (tgt := 60) hx hb d_MPath_add_56 (by decide) ?_
    exact L_60  1  (by simp [bz, c_2]) _ _ _ hP hD hS (lv_sub hl [0, 1, 2, 3, 4, 5, 6, 7] rfl)
  · skip
    refine lv_lload_n hx hb d_MPath_add_8 rfl (lv_at hl 2 rfl) ?_
    refine ct_callS (av := [.long x]) (rest := [.ref h]) (wr := [(h, .inr (6, [.ref qk, .ref qp, .int (nI n), .int (bz fu), .int (bz fa)])), (qk, .inl (cB, 3000, .inl K)), (qp, .inl (cI, 18000, .inl P))]) (n := 1) (c_MPath_isFar l D cI cB cJ qQ  x ) hx hb hml hown hts (amb_ok qQ) hK hP hD hS hA hM (gi_S gw_568 gw_569 gw_34 gw_570) rfl (by decide +kernel) ⟨by omega, by omega⟩ [] [0, 1, 2] rfl rfl rfl rfl (by decide) rfl hl.1 rfl (Nat.le_of_ble_eq_true rfl) d_MPath_add_9 ⟨by omega, by omega⟩ (fun u_3 H locs hok hP hD hS => ?_)
    have hP : va_P D cl [(h, .inr (6, [.ref qk, .ref qp, .int (nI n), .int (bz fu), .int (bz fa)])), (qk, .inl (cB, 3000, .inl K)), (qp, .inl (cI, 18000, .inl P))] H := hP
    have hD : va_D A [(h, .inr (6, [.ref qk, .ref qp, .int (nI n), .int (bz fu), .int (bz fa)])), (qk, .inl (cB, 3000, .inl K)), (qp, .inl (cI, 18000, .inl P))] := hD
    refine W.eq (g2 := F0 m 12 ls [.int (bz (fr x)), .ref h]) rfl ?_
    refine bb_ne (tgt := 55) hx hb d_MPath_add_12 (by decide) (fun c_4 => ?_) (fun c_4 => ?_)
    · skip
      refine lv_iconst (v := 1) hx hb d_MPath_add_55 (by decide) ?_
      refine lv_goto (tgt := 60) hx hb d_MPath_add_56 (by decide) ?_
      exact L_60  1  (by simp [bz, c_2, c_4]) _ _ _ hP hD hS (lv_sub hl [0, 1, 2, 3, 4, 5, 6, 7] rfl)
    · skip
      refine lv_lload hx hb d_MPath_add_15 (lv_at hl 3 rfl) ?_
      refine ct_callS (av := [.long y]) (rest := [.ref h]) (wr := [(h, .inr (6, [.ref qk, .ref qp, .int (nI n), .int (bz fu), .int (bz fa)])), (qk, .inl (cB, 3000, .inl K)), (qp, .inl (cI, 18000, .inl P))]) (n := 1) (c_MPath_isFar l D cI cB cJ qQ  y ) hx hb hml hown hts (amb_ok qQ) hK hP hD hS hA hM (gi_S gw_568 gw_569 gw_34 gw_570) rfl (by decide +kernel) ⟨by omega, by omega⟩ [] [0, 1, 2] rfl rfl rfl rfl (by decide) rfl hl.1 rfl (Nat.le_of_ble_eq_true rfl) d_MPath_add_17 ⟨by omega, by omega⟩ (fun u_5 H locs hok hP hD hS => ?_)
      have hP : va_P D cl [(h, .inr (6, [.ref qk, .ref qp, .int (nI n), .int (bz fu), .int (bz fa)])), (qk, .inl (cB, 3000, .inl K)), (qp, .inl (cI, 18000, .inl P))] H := hP
      have hD : va_D A [(h, .inr (6, [.ref qk, .ref qp, .int (nI n), .int (bz fu), .int (bz fa)])), (qk, .inl (cB, 3000, .inl K)), (qp, .inl (cI, 18000, .inl P))] := hD
      refine W.eq (g2 := F0 m 20 ls [.int (bz (fr y)), .ref h]) rfl ?_
      refine bb_ne (tgt := 55) hx hb d_MPath_add_20 (by decide) (fun c_6 => ?_) (fun c_6 => ?_)
      · skip
        refine lv_iconst (v := 1) hx hb d_MPath_add_55 (by decide) ?_
        refine lv_goto (tgt := 60) hx hb d_MPath_add_56 (by decide) ?_
        exact L_60  1  (by simp [bz, c_2, c_4, c_6]) _ _ _ hP hD hS (lv_sub hl [0, 1, 2, 3, 4, 5, 6, 7] rfl)
      · skip
        refine lv_lload hx hb d_MPath_add_23 (lv_at hl 4 rfl) ?_
        refine ct_callS (av := [.long x1]) (rest := [.ref h]) (wr := [(h, .inr (6, [.ref qk, .ref qp, .int (nI n), .int (bz fu), .int (bz fa)])), (qk, .inl (cB, 3000, .inl K)), (qp, .inl (cI, 18000, .inl P))]) (n := 1) (c_MPath_isFar l D cI cB cJ qQ  x1 ) hx hb hml hown hts (amb_ok qQ) hK hP hD hS hA hM (gi_S gw_568 gw_569 gw_34 gw_570) rfl (by decide +kernel) ⟨by omega, by omega⟩ [] [0, 1, 2] rfl rfl rfl rfl (by decide) rfl hl.1 rfl (Nat.le_of_ble_eq_true rfl) d_MPath_add_25 ⟨by omega, by omega⟩ (fun u_7 H locs hok hP hD hS => ?_)
        have hP : va_P D cl [(h, .inr (6, [.ref qk, .ref qp, .int (nI n), .int (bz fu), .int (bz fa)])), (qk, .inl (cB, 3000, .inl K)), (qp, .inl (cI, 18000, .inl P))] H := hP
        have hD : va_D A [(h, .inr (6, [.ref qk, .ref qp, .int (nI n), .int (bz fu), .int (bz fa)])), (qk, .inl (cB, 3000, .inl K)), (qp, .inl (cI, 18000, .inl P))] := hD
        refine W.eq (g2 := F0 m 28 ls [.int (bz (fr x1)), .ref h]) rfl ?_
        refine bb_ne (tgt := 55) hx hb d_MPath_add_28 (by decide) (fun c_8 => ?_) (fun c_8 => ?_)
        · skip
          refine lv_iconst (v := 1) hx hb d_MPath_add_55 (by decide) ?_
          refine lv_goto (tgt := 60) hx hb d_MPath_add_56 (by decide) ?_
          exact L_60  1  (by simp [bz, c_2, c_4, c_6, c_8]) _ _ _ hP hD hS (lv_sub hl [0, 1, 2, 3, 4, 5, 6, 7] rfl)
        · skip
          refine lv_lload hx hb d_MPath_add_31 (lv_at hl 5 rfl) ?_
          refine ct_callS (av := [.long y1]) (rest := [.ref h]) (wr := [(h, .inr (6, [.ref qk, .ref qp, .int (nI n), .int (bz fu), .int (bz fa)])), (qk, .inl (cB, 3000, .inl K)), (qp, .inl (cI, 18000, .inl P))]) (n := 1) (c_MPath_isFar l D cI cB cJ qQ  y1 ) hx hb hml hown hts (amb_ok qQ) hK hP hD hS hA hM (gi_S gw_568 gw_569 gw_34 gw_570) rfl (by decide +kernel) ⟨by omega, by omega⟩ [] [0, 1, 2] rfl rfl rfl rfl (by decide) rfl hl.1 rfl (Nat.le_of_ble_eq_true rfl) d_MPath_add_33 ⟨by omega, by omega⟩ (fun u_9 H locs hok hP hD hS => ?_)
          have hP : va_P D cl [(h, .inr (6, [.ref qk, .ref qp, .int (nI n), .int (bz fu), .int (bz fa)])), (qk, .inl (cB, 3000, .inl K)), (qp, .inl (cI, 18000, .inl P))] H := hP
          have hD : va_D A [(h, .inr (6, [.ref qk, .ref qp, .int (nI n), .int (bz fu), .int (bz fa)])), (qk, .inl (cB, 3000, .inl K)), (qp, .inl (cI, 18000, .inl P))] := hD
          refine W.eq (g2 := F0 m 36 ls [.int (bz (fr y1)), .ref h]) rfl ?_
          refine bb_ne (tgt := 55) hx hb d_MPath_add_36 (by decide) (fun c_10 => ?_) (fun c_10 => ?_)
          · skip
            refine lv_iconst (v := 1) hx hb d_MPath_add_55 (by decide) ?_
            refine lv_goto (tgt := 60) hx hb d_MPath_add_56 (by decide) ?_
            exact L_60  1  (by simp [bz, c_2, c_4, c_6, c_8, c_10]) _ _ _ hP hD hS (lv_sub hl [0, 1, 2, 3, 4, 5, 6, 7] rfl)
          · skip
            refine lv_lload hx hb d_MPath_add_39 (lv_at hl 6 rfl) ?_
            refine ct_callS (av := [.long x2]) (rest := [.ref h]) (wr := [(h, .inr (6, [.ref qk, .ref qp, .int (nI n), .int (bz fu), .int (bz fa)])), (qk, .inl (cB, 3000, .inl K)), (qp, .inl (cI, 18000, .inl P))]) (n := 1) (c_MPath_isFar l D cI cB cJ qQ  x2 ) hx hb hml hown hts (amb_ok qQ) hK hP hD hS hA hM (gi_S gw_568 gw_569 gw_34 gw_570) rfl (by decide +kernel) ⟨by omega, by omega⟩ [] [0, 1, 2] rfl rfl rfl rfl (by decide) rfl hl.1 rfl (Nat.le_of_ble_eq_true rfl) d_MPath_add_41 ⟨by omega, by omega⟩ (fun u_11 H locs hok hP hD hS => ?_)
            have hP : va_P D cl [(h, .inr (6, [.ref qk, .ref qp, .int (nI n), .int (bz fu), .int (bz fa)])), (qk, .inl (cB, 3000, .inl K)), (qp, .inl (cI, 18000, .inl P))] H := hP
            have hD : va_D A [(h, .inr (6, [.ref qk, .ref qp, .int (nI n), .int (bz fu), .int (bz fa)])), (qk, .inl (cB, 3000, .inl K)), (qp, .inl (cI, 18000, .inl P))] := hD
            refine W.eq (g2 := F0 m 44 ls [.int (bz (fr x2)), .ref h]) rfl ?_
            refine bb_ne (tgt := 55) hx hb d_MPath_add_44 (by decide) (fun c_12 => ?_) (fun c_12 => ?_)
            · skip
              refine lv_iconst (v := 1) hx hb d_MPath_add_55 (by decide) ?_
              refine lv_goto (tgt := 60) hx hb d_MPath_add_56 (by decide) ?_
              exact L_60  1  (by simp [bz, c_2, c_4, c_6, c_8, c_10, c_12]) _ _ _ hP hD hS (lv_sub hl [0, 1, 2, 3, 4, 5, 6, 7] rfl)
            · skip
              refine lv_lload hx hb d_MPath_add_47 (lv_at hl 7 rfl) ?_
              refine ct_callS (av := [.long y2]) (rest := [.ref h]) (wr := [(h, .inr (6, [.ref qk, .ref qp, .int (nI n), .int (bz fu), .int (bz fa)])), (qk, .inl (cB, 3000, .inl K)), (qp, .inl (cI, 18000, .inl P))]) (n := 1) (c_MPath_isFar l D cI cB cJ qQ  y2 ) hx hb hml hown hts (amb_ok qQ) hK hP hD hS hA hM (gi_S gw_568 gw_569 gw_34 gw_570) rfl (by decide +kernel) ⟨by omega, by omega⟩ [] [0, 1, 2] rfl rfl rfl rfl (by decide) rfl hl.1 rfl (Nat.le_of_ble_eq_true rfl) d_MPath_add_49 ⟨by omega, by omega⟩ (fun u_13 H locs hok hP hD hS => ?_)
              have hP : va_P D cl [(h, .inr (6, [.ref qk, .ref qp, .int (nI n), .int (bz fu), .int (bz fa)])), (qk, .inl (cB, 3000, .inl K)), (qp, .inl (cI, 18000, .inl P))] H := hP
              have hD : va_D A [(h, .inr (6, [.ref qk, .ref qp, .int (nI n), .int (bz fu), .int (bz fa)])), (qk, .inl (cB, 3000, .inl K)), (qp, .inl (cI, 18000, .inl P))] := hD
              refine W.eq (g2 := F0 m 52 ls [.int (bz (fr y2)), .ref h]) rfl ?_
              refine bb_eq (tgt := 59) hx hb d_MPath_add_52 (by decide) (fun c_14 => ?_) (fun c_14 => ?_)
              · skip
                refine lv_iconst (v := 0) hx hb d_MPath_add_59 (by decide) ?_
                exact L_60  0  (by simp [bz, c_2, c_4, c_6, c_8, c_10, c_12, c_14]) _ _ _ hP hD hS (lv_sub hl [0, 1, 2, 3, 4, 5, 6, 7] rfl)
              · skip
                refine lv_iconst (v := 1) hx hb d_MPath_add_55 (by decide) ?_
                refine lv_goto (tgt := 60) hx hb d_MPath_add_56 (by decide) ?_
                exact L_60  1  (by simp [bz, c_2, c_4, c_6, c_8, c_10, c_12, c_14]) _ _ _ hP hD hS (lv_sub hl [0, 1, 2, 3, 4, 5, 6, 7] rfl)
set_option maxHeartbeats 4000000 in
set_option maxRecDepth 100000 in
/-- addPoint(..) -/
theorem c_MPath_addPoint (l : Launch) (D : va_G) (cI cB cJ : ClassId) (qQ : Nat) (h : Nat) (qk : Nat) (qp : Nat) (n : Nat) (K : Nat → Int32) (P : Nat → Int32) (fu : Bool) (fa : Bool) (kd : Int32) (x : Int64) (y : Int64) (hn : n ≤ 3000) (hk : kok kd) : ct l D cl [(cI, .int), (cB, .byte), (cJ, .long)] (amb qQ) y_MPath_addPoint w_MPath_addPoint 2 54 (0) (0) [.ref h, .int kd, .long x, .long y] [(h, .inr (6, [.ref qk, .ref qp, .int (nI n), .int (bz fu), .int (bz fa)])), (qk, .inl (cB, 3000, .inl K)), (qp, .inl (cI, 18000, .inl P))] (fun u_ : Nat × (Nat → Int32) × (Nat → Int32) × Bool × Bool => match u_ with | (n', K', P', fu', fa') => n' ≤ 3000 ∧ (lst n' K' P', fu', fa') = addD (lst n K P, fu, fa) kd x y 0 0 0 0) (fun u_ : Nat × (Nat → Int32) × (Nat → Int32) × Bool × Bool => match u_ with | (n', K', P', fu', fa') => none) (fun u_ : Nat × (Nat → Int32) × (Nat → Int32) × Bool × Bool => match u_ with | (n', K', P', fu', fa') => [(h, .inr (6, [.ref qk, .ref qp, .int (nI n'), .int (bz fu'), .int (bz fa')])), (qk, .inl (cB, 3000, .inl K')), (qp, .inl (cI, 18000, .inl P'))]) := by
  refine ct_ofW (cc := b_MPath_addPoint) (maxL := 6) (ret := none) (by decide) rfl (Nat.le_of_ble_eq_true rfl) ?_
  intro p e R s m args below meth c A Q ls hx hb hr hml hts hown hlocks hname hRf hRc hRs hRl hQ hK hP hD hS hA hM hl
  have hl : lv_has ls 6 [(0, .ref h), (1, .int kd), (2, .long x), (4, .long y)] := hl
  refine lv_aload_n hx hb d_MPath_addPoint_0 rfl (lv_at hl 0 rfl) ?_
  refine lv_iload_n hx hb d_MPath_addPoint_1 rfl (lv_at hl 1 rfl) ?_
  refine lv_lload_n hx hb d_MPath_addPoint_2 rfl (lv_at hl 2 rfl) ?_
  refine lv_lload hx hb d_MPath_addPoint_3 (lv_at hl 3 rfl) ?_
  refine lv_lconst (v := 0) hx hb d_MPath_addPoint_5 (by decide) ?_
  refine lv_lconst (v := 0) hx hb d_MPath_addPoint_6 (by decide) ?_
  refine lv_lconst (v := 0) hx hb d_MPath_addPoint_7 (by decide) ?_
  refine lv_lconst (v := 0) hx hb d_MPath_addPoint_8 (by decide) ?_
  refine ct_callV (ci := 6) (q0 := 0) (As := [.int kd, .long x, .long y, .long 0, .long 0, .long 0, .long 0]) (rest := []) (wr := []) (n := 7) (c_MPath_add l D cI cB cJ qQ  h qk qp n K P fu fa kd x y 0 0 0 0 (hn) (hk)) hx hb hml hown hts (amb_ok qQ) hK hP hD hS hA hM (gi_V gw_564 gw_565 gw_566 gw_34 gw_567) rfl (by decide +kernel) ⟨by omega, by omega⟩ [0, 1, 2] [] rfl rfl rfl rfl (by decide) rfl rfl rfl hl.1 rfl (Nat.le_of_ble_eq_true rfl) d_MPath_addPoint_9 ⟨by omega, by omega⟩ (fun u_1 H locs hok hP hD hS => ?_)
  obtain ⟨n'_2, K'_3, P'_4, fu'_5, fa'_6⟩ := u_1
  have hok_7 : n'_2 ≤ 3000 ∧ (lst n'_2 K'_3 P'_4, fu'_5, fa'_6) = addD (lst n K P, fu, fa) kd x y 0 0 0 0 := hok
  have hP : va_P D cl [(h, .inr (6, [.ref qk, .ref qp, .int (nI n'_2), .int (bz fu'_5), .int (bz fa'_6)])), (qk, .inl (cB, 3000, .inl K'_3)), (qp, .inl (cI, 18000, .inl P'_4))] H := hP
  have hD : va_D A [(h, .inr (6, [.ref qk, .ref qp, .int (nI n'_2), .int (bz fu'_5), .int (bz fa'_6)])), (qk, .inl (cB, 3000, .inl K'_3)), (qp, .inl (cI, 18000, .inl P'_4))] := hD
  refine W.eq (g2 := F0 m 12 ls []) rfl ?_
  exact ct_retv hQ hx hb hr hlocks hP hD hS (n'_2, K'_3, P'_4, fu'_5, fa'_6) [(h, .inr (6, [.ref qk, .ref qp, .int (nI n'_2), .int (bz fu'_5), .int (bz fa'_6)])), (qk, .inl (cB, 3000, .inl K'_3)), (qp, .inl (cI, 18000, .inl P'_4))] [0, 1, 2] (rfl) (hok_7) (rfl) rfl rfl (by omega) (by omega) d_MPath_addPoint_12
