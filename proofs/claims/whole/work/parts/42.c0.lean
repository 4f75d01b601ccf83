set_option maxHeartbeats 4000000 in
set_option maxRecDepth 100000 in
/-- Math.max -/
theorem c_max (l : Launch) (D : va_G) (cI cB cJ : ClassId) (qQ : Nat) (x : Int32) (y : Int32)  : ct l D cl [(cI, .int), (cB, .byte), (cJ, .long)] (amb qQ) y_Math_max w_Math_max 0 0 (0) (0) [.int x, .int y] [] (fun _ : Unit => True) (fun _ : Unit => some (.int (i32max x y))) (fun _ : Unit => []) := by
  refine ct_ofWF (cc := b_Math_max) (maxL := 2) (ret := (some .int)) (by decide +kernel) rfl (Nat.le_of_ble_eq_true rfl) ?_
  intro p e R s m args below meth c A Q ls hx hb hr hml hts hown hlocks hname hRf hRc hRs hRl hQ hK hP hD hS hA hM hl
  have hl : lv_has ls 2 [(0, .int x), (1, .int y)] := hl
  refine lv_iload_n hx hb d_Math_max_0 rfl (lv_at hl 0 rfl) ?_
  refine lv_iload_n hx hb d_Math_max_1 rfl (lv_at hl 1 rfl) ?_
  refine lv_icmp_lt (tgt := 9) hx hb d_Math_max_2 (by decide) (fun c_1 => ?_) (fun c_1 => ?_)
  · skip
    refine lv_iload_n hx hb d_Math_max_9 rfl (lv_at hl 1 rfl) ?_
    exact ct_reti hQ hx hb hr hlocks hP hD hS () [] [] (by simp [i32max, c_1]) (trivial) (rfl) rfl rfl (by omega) (by omega) d_Math_max_10
  · skip
    refine lv_iload_n hx hb d_Math_max_5 rfl (lv_at hl 0 rfl) ?_
    refine lv_goto (tgt := 10) hx hb d_Math_max_6 (by decide) ?_
    exact ct_reti hQ hx hb hr hlocks hP hD hS () [] [] (by simp [i32max, c_1]) (trivial) (rfl) rfl rfl (by omega) (by omega) d_Math_max_10
set_option maxHeartbeats 4000000 in
set_option maxRecDepth 100000 in
/-- Math.min -/
theorem c_min (l : Launch) (D : va_G) (cI cB cJ : ClassId) (qQ : Nat) (x : Int32) (y : Int32)  : ct l D cl [(cI, .int), (cB, .byte), (cJ, .long)] (amb qQ) y_Math_min w_Math_min 0 0 (0) (0) [.int x, .int y] [] (fun _ : Unit => True) (fun _ : Unit => some (.int (i32min x y))) (fun _ : Unit => []) := by
  refine ct_ofWF (cc := b_Math_min) (maxL := 2) (ret := (some .int)) (by decide +kernel) rfl (Nat.le_of_ble_eq_true rfl) ?_
  intro p e R s m args below meth c A Q ls hx hb hr hml hts hown hlocks hname hRf hRc hRs hRl hQ hK hP hD hS hA hM hl
  have hl : lv_has ls 2 [(0, .int x), (1, .int y)] := hl
  refine lv_iload_n hx hb d_Math_min_0 rfl (lv_at hl 0 rfl) ?_
  refine lv_iload_n hx hb d_Math_min_1 rfl (lv_at hl 1 rfl) ?_
  refine lv_icmp_gt (tgt := 9) hx hb d_Math_min_2 (by decide) (fun c_1 => ?_) (fun c_1 => ?_)
  · skip
    refine lv_iload_n hx hb d_Math_min_9 rfl (lv_at hl 1 rfl) ?_
    exact ct_reti hQ hx hb hr hlocks hP hD hS () [] [] (by simp [i32min, c_1]) (trivial) (rfl) rfl rfl (by omega) (by omega) d_Math_min_10
  · skip
    refine lv_iload_n hx hb d_Math_min_5 rfl (lv_at hl 0 rfl) ?_
    refine lv_goto (tgt := 10) hx hb d_Math_min_6 (by decide) ?_
    exact ct_reti hQ hx hb hr hlocks hP hD hS () [] [] (by simp [i32min, c_1]) (trivial) (rfl) rfl rfl (by omega) (by omega) d_Math_min_10
set_option maxHeartbeats 4000000 in
set_option maxRecDepth 100000 in
/-- isFar -/
theorem c_CP_isFar (l : Launch) (D : va_G) (cI cB cJ : ClassId) (qQ : Nat) (v : Int64)  : ct l D cl [(cI, .int), (cB, .byte), (cJ, .long)] (amb qQ) y_CP_isFar w_CP_isFar 0 0 (0) (0) [.long v] [] (fun _ : Unit => True) (fun _ : Unit => some (.int (bz (fr v)))) (fun _ : Unit => []) := by
  refine ct_ofW (cc := b_CP_isFar) (maxL := 2) (ret := (some .boolean)) (by decide) rfl (Nat.le_of_ble_eq_true rfl) ?_
  intro p e R s m args below meth c A Q ls hx hb hr hml hts hown hlocks hname hRf hRc hRs hRl hQ hK hP hD hS hA hM hl
  have hl : lv_has ls 2 [(0, .long v)] := hl
  refine lv_lload_n hx hb d_CP_isFar_0 rfl (lv_at hl 0 rfl) ?_
  refine lv_ldc2 (v := (-536870912)) hx hb hown (hts _ (gwc gw_164)) d_CP_isFar_1 ?_
  refine W.lcmp hx hb d_CP_isFar_4 ?_
  refine lc_lt (tgt := 16) hx hb d_CP_isFar_5 (by decide) (fun c_1 => ?_) (fun c_1 => ?_)
  · skip
    refine lv_iconst (v := 1) hx hb d_CP_isFar_16 (by decide) ?_
    refine lv_goto (tgt := 21) hx hb d_CP_isFar_17 (by decide) ?_
    exact ct_retz hQ hx hb hr hlocks hP hD hS () [] [] (by simp [fr, bz, c_1]) (trivial) (rfl) rfl rfl (by decide) (by omega) (by omega) d_CP_isFar_21
  · skip
    refine lv_lload_n hx hb d_CP_isFar_8 rfl (lv_at hl 0 rfl) ?_
    refine lv_ldc2 (v := 536870912) hx hb hown (hts _ (gwc gw_165)) d_CP_isFar_9 ?_
    refine W.lcmp hx hb d_CP_isFar_12 ?_
    refine lc_le (tgt := 20) hx hb d_CP_isFar_13 (by decide) (fun c_2 => ?_) (fun c_2 => ?_)
    · skip
      refine lv_iconst (v := 0) hx hb d_CP_isFar_20 (by decide) ?_
      exact ct_retz hQ hx hb hr hlocks hP hD hS () [] [] (by simp [fr, bz, c_1, c_2]) (trivial) (rfl) rfl rfl (by decide) (by omega) (by omega) d_CP_isFar_21
    · skip
      refine lv_iconst (v := 1) hx hb d_CP_isFar_16 (by decide) ?_
      refine lv_goto (tgt := 21) hx hb d_CP_isFar_17 (by decide) ?_
      exact ct_retz hQ hx hb hr hlocks hP hD hS () [] [] (by simp [fr, bz, c_1, c_2]) (trivial) (rfl) rfl rfl (by decide) (by omega) (by omega) d_CP_isFar_21
set_option maxHeartbeats 4000000 in
set_option maxRecDepth 100000 in
/-- isFarPoint -/
theorem c_CP_isFarPoint (l : Launch) (D : va_G) (cI cB cJ : ClassId) (qQ : Nat) (x : Int64) (y : Int64)  : ct l D cl [(cI, .int), (cB, .byte), (cJ, .long)] (amb qQ) y_CP_isFarPoint w_CP_isFarPoint 1 21 (0) (0) [.long x, .long y] [] (fun _ : Unit => True) (fun _ : Unit => some (.int (bz (fr x || fr y)))) (fun _ : Unit => []) := by
  refine ct_ofW (cc := b_CP_isFarPoint) (maxL := 4) (ret := (some .boolean)) (by decide) rfl (Nat.le_of_ble_eq_true rfl) ?_
  intro p e R s m args below meth c A Q ls hx hb hr hml hts hown hlocks hname hRf hRc hRs hRl hQ hK hP hD hS hA hM hl
  have hl : lv_has ls 4 [(0, .long x), (2, .long y)] := hl
  refine lv_lload_n hx hb d_CP_isFarPoint_0 rfl (lv_at hl 0 rfl) ?_
  refine ct_callS (av := [.long x]) (rest := []) (wr := []) (n := 1) (c_CP_isFar l D cI cB cJ qQ  x ) hx hb hml hown hts (amb_ok qQ) hK hP hD hS hA hM (gi_S gw_161 gw_162 gw_28 gw_163) rfl (by decide +kernel) ⟨by omega, by omega⟩ [] [] rfl rfl rfl rfl (by decide) rfl hl.1 rfl (Nat.le_of_ble_eq_true rfl) d_CP_isFarPoint_1 ⟨by omega, by omega⟩ (fun u_1 H locs hok hP hD hS => ?_)
  have hP : va_P D cl [] H := hP
  have hD : va_D A [] := hD
  refine W.eq (g2 := F0 m 4 ls [.int (bz (fr x))]) rfl ?_
  refine bb_ne (tgt := 14) hx hb d_CP_isFarPoint_4 (by decide) (fun c_2 => ?_) (fun c_2 => ?_)
  · skip
    refine lv_iconst (v := 1) hx hb d_CP_isFarPoint_14 (by decide) ?_
    refine lv_goto (tgt := 19) hx hb d_CP_isFarPoint_15 (by decide) ?_
    exact ct_retz hQ hx hb hr hlocks hP hD hS () [] [] (by simp [bz, c_2]) (trivial) (rfl) rfl rfl (by decide) (by omega) (by omega) d_CP_isFarPoint_19
  · skip
    refine lv_lload_n hx hb d_CP_isFarPoint_7 rfl (lv_at hl 1 rfl) ?_
    refine ct_callS (av := [.long y]) (rest := []) (wr := []) (n := 1) (c_CP_isFar l D cI cB cJ qQ  y ) hx hb hml hown hts (amb_ok qQ) hK hP hD hS hA hM (gi_S gw_161 gw_162 gw_28 gw_163) rfl (by decide +kernel) ⟨by omega, by omega⟩ [] [] rfl rfl rfl rfl (by decide) rfl hl.1 rfl (Nat.le_of_ble_eq_true rfl) d_CP_isFarPoint_8 ⟨by omega, by omega⟩ (fun u_3 H locs hok hP hD hS => ?_)
    have hP : va_P D cl [] H := hP
    have hD : va_D A [] := hD
    refine W.eq (g2 := F0 m 11 ls [.int (bz (fr y))]) rfl ?_
    refine bb_eq (tgt := 18) hx hb d_CP_isFarPoint_11 (by decide) (fun c_4 => ?_) (fun c_4 => ?_)
    · skip
      refine lv_iconst (v := 0) hx hb d_CP_isFarPoint_18 (by decide) ?_
      exact ct_retz hQ hx hb hr hlocks hP hD hS () [] [] (by simp [bz, c_2, c_4]) (trivial) (rfl) rfl rfl (by decide) (by omega) (by omega) d_CP_isFarPoint_19
    · skip
      refine lv_iconst (v := 1) hx hb d_CP_isFarPoint_14 (by decide) ?_
      refine lv_goto (tgt := 19) hx hb d_CP_isFarPoint_15 (by decide) ?_
      exact ct_retz hQ hx hb hr hlocks hP hD hS () [] [] (by simp [bz, c_2, c_4]) (trivial) (rfl) rfl rfl (by decide) (by omega) (by omega) d_CP_isFarPoint_19
set_option maxHeartbeats 4000000 in
set_option maxRecDepth 100000 in
/-- notBelow -/
theorem c_CP_notBelow (l : Launch) (D : va_G) (cI cB cJ : ClassId) (qQ : Nat) (an : Int64) (fo : Int64)  : ct l D cl [(cI, .int), (cB, .byte), (cJ, .long)] (amb qQ) y_CP_notBelow w_CP_notBelow 1 25 (0) (0) [.long an, .long fo] [] (fun _ : Unit => True) (fun _ : Unit => some (.long (nbl an fo))) (fun _ : Unit => []) := by
  refine ct_ofW (cc := b_CP_notBelow) (maxL := 4) (ret := (some .long)) (by decide) rfl (Nat.le_of_ble_eq_true rfl) ?_
  intro p e R s m args below meth c A Q ls hx hb hr hml hts hown hlocks hname hRf hRc hRs hRl hQ hK hP hD hS hA hM hl
  have hl : lv_has ls 4 [(0, .long an), (2, .long fo)] := hl
  refine lv_lload_n hx hb d_CP_notBelow_0 rfl (lv_at hl 0 rfl) ?_
  refine lv_lload_n hx hb d_CP_notBelow_1 rfl (lv_at hl 1 rfl) ?_
  refine W.lcmp hx hb d_CP_notBelow_2 ?_
  refine lc_lt (tgt := 10) hx hb d_CP_notBelow_3 (by decide) (fun c_1 => ?_) (fun c_1 => ?_)
  · skip
    refine lv_lload_n hx hb d_CP_notBelow_10 rfl (lv_at hl 1 rfl) ?_
    refine lv_lload_n hx hb d_CP_notBelow_11 rfl (lv_at hl 0 rfl) ?_
    refine lv_lload_n hx hb d_CP_notBelow_12 rfl (lv_at hl 1 rfl) ?_
    refine lv_lsub hx hb d_CP_notBelow_13 ?_
    refine lv_ldc2 (v := 23592960) hx hb hown (hts _ (gwc gw_248)) d_CP_notBelow_14 ?_
    refine ct_callS (av := [.long (an - fo), .long 23592960]) (rest := [.long fo]) (wr := []) (n := 2) (c_floorMod l D cI cB cJ qQ  (an - fo) 23592960 (by decide)) hx hb hml hown hts (amb_ok qQ) hK hP hD hS hA hM (gi_S gw_249 gw_250 gw_35 gw_251) rfl (by decide +kernel) ⟨by omega, by omega⟩ [] [] rfl rfl rfl rfl (by decide) rfl hl.1 rfl (Nat.le_of_ble_eq_true rfl) d_CP_notBelow_17 ⟨by omega, by omega⟩ (fun u_2 H locs hok hP hD hS => ?_)
    have hP : va_P D cl [] H := hP
    have hD : va_D A [] := hD
    refine W.eq (g2 := F0 m 20 ls [.long (fmd (an - fo) 23592960), .long fo]) rfl ?_
    refine lv_ladd hx hb d_CP_notBelow_20 ?_
    exact ct_retl hQ hx hb hr hlocks hP hD hS () [] [] (by simp [nbl, c_1]) (trivial) (rfl) rfl rfl (by omega) (by omega) d_CP_notBelow_21
  · skip
    refine lv_lload_n hx hb d_CP_notBelow_6 rfl (lv_at hl 0 rfl) ?_
    refine lv_goto (tgt := 21) hx hb d_CP_notBelow_7 (by decide) ?_
    exact ct_retl hQ hx hb hr hlocks hP hD hS () [] [] (by simp [nbl, c_1]) (trivial) (rfl) rfl rfl (by omega) (by omega) d_CP_notBelow_21
set_option maxHeartbeats 4000000 in
set_option maxRecDepth 100000 in
/-- notAbove -/
theorem c_CP_notAbove (l : Launch) (D : va_G) (cI cB cJ : ClassId) (qQ : Nat) (an : Int64) (fo : Int64)  : ct l D cl [(cI, .int), (cB, .byte), (cJ, .long)] (amb qQ) y_CP_notAbove w_CP_notAbove 1 25 (0) (0) [.long an, .long fo] [] (fun _ : Unit => True) (fun _ : Unit => some (.long (nab an fo))) (fun _ : Unit => []) := by
  refine ct_ofW (cc := b_CP_notAbove) (maxL := 4) (ret := (some .long)) (by decide) rfl (Nat.le_of_ble_eq_true rfl) ?_
  intro p e R s m args below meth c A Q ls hx hb hr hml hts hown hlocks hname hRf hRc hRs hRl hQ hK hP hD hS hA hM hl
  have hl : lv_has ls 4 [(0, .long an), (2, .long fo)] := hl
  refine lv_lload_n hx hb d_CP_notAbove_0 rfl (lv_at hl 0 rfl) ?_
  refine lv_lload_n hx hb d_CP_notAbove_1 rfl (lv_at hl 1 rfl) ?_
  refine W.lcmp hx hb d_CP_notAbove_2 ?_
  refine lc_gt (tgt := 10) hx hb d_CP_notAbove_3 (by decide) (fun c_1 => ?_) (fun c_1 => ?_)
  · skip
    refine lv_lload_n hx hb d_CP_notAbove_10 rfl (lv_at hl 1 rfl) ?_
    refine lv_lload_n hx hb d_CP_notAbove_11 rfl (lv_at hl 1 rfl) ?_
    refine lv_lload_n hx hb d_CP_notAbove_12 rfl (lv_at hl 0 rfl) ?_
    refine lv_lsub hx hb d_CP_notAbove_13 ?_
    refine lv_ldc2 (v := 23592960) hx hb hown (hts _ (gwc gw_248)) d_CP_notAbove_14 ?_
    refine ct_callS (av := [.long (fo - an), .long 23592960]) (rest := [.long fo]) (wr := []) (n := 2) (c_floorMod l D cI cB cJ qQ  (fo - an) 23592960 (by decide)) hx hb hml hown hts (amb_ok qQ) hK hP hD hS hA hM (gi_S gw_249 gw_250 gw_35 gw_251) rfl (by decide +kernel) ⟨by omega, by omega⟩ [] [] rfl rfl rfl rfl (by decide) rfl hl.1 rfl (Nat.le_of_ble_eq_true rfl) d_CP_notAbove_17 ⟨by omega, by omega⟩ (fun u_2 H locs hok hP hD hS => ?_)
    have hP : va_P D cl [] H := hP
    have hD : va_D A [] := hD
    refine W.eq (g2 := F0 m 20 ls [.long (fmd (fo - an) 23592960), .long fo]) rfl ?_
    refine lv_lsub hx hb d_CP_notAbove_20 ?_
    exact ct_retl hQ hx hb hr hlocks hP hD hS () [] [] (by simp [nab, c_1]) (trivial) (rfl) rfl rfl (by omega) (by omega) d_CP_notAbove_21
  · skip
    refine lv_lload_n hx hb d_CP_notAbove_6 rfl (lv_at hl 0 rfl) ?_
    refine lv_goto (tgt := 21) hx hb d_CP_notAbove_7 (by decide) ?_
    exact ct_retl hQ hx hb hr hlocks hP hD hS () [] [] (by simp [nab, c_1]) (trivial) (rfl) rfl rfl (by omega) (by omega) d_CP_notAbove_21
set_option maxHeartbeats 4000000 in
set_option maxRecDepth 100000 in
/-- staysNear -/
theorem c_CP_staysNear (l : Launch) (D : va_G) (cI cB cJ : ClassId) (qQ : Nat) (q : Nat) (nr : Nat) (X : Nat → Int32) (ct_ : Nat) (dl : Int32) (hc : ct_ ≤ nr) (hr_ : nr ≤ 9000) : ct l D cl [(cI, .int), (cB, .byte), (cJ, .long)] (amb qQ) y_CP_staysNear w_CP_staysNear 1 21 (0) (0) [.ref q, .int (nI ct_), .int dl] [(q, .inl (cI, nr, .inl X))] (fun r : Bool => r = true ↔ near X ct_ dl) (fun r : Bool => some (.int (bz r))) (fun r : Bool => [(q, .inl (cI, nr, .inl X))]) := by
  refine ct_ofW (cc := b_CP_staysNear) (maxL := 4) (ret := (some .boolean)) (by decide) rfl (Nat.le_of_ble_eq_true rfl) ?_
  intro p e R s m args below meth c A Q ls hx hb hr hml hts hown hlocks hname hRf hRc hRs hRl hQ hK hP hD hS hA hM hl
  have hl : lv_has ls 4 [(0, .ref q), (1, .int (nI ct_)), (2, .int dl)] := hl
  refine lv_iconst (v := 0) hx hb d_CP_staysNear_0 (by decide) ?_
  refine lv_istore_n (lv' := [(3, .int 0), (0, .ref q), (1, .int (nI ct_)), (2, .int dl)]) hx hb d_CP_staysNear_1 rfl hl (by decide) rfl (fun ls hl => ?_)
  have L_2 : ∀ (n_ : Nat) (i : Nat), ct_ - i < n_ → (i ≤ ct_) → (∀ k, k < i → fr ((X k).toInt64 + dl.toInt64) = false) → ∀ (H : Heap) (locs : List Loc) (ls : Array Slot), va_P D cl [(q, .inl (cI, nr, .inl X))] H → va_D A [(q, .inl (cI, nr, .inl X))] → va_S A s.heap H locs → lv_has ls 4 [(0, .ref q), (1, .int (nI ct_)), (2, .int dl), (3, .int (nI i))] → W p l e R s m args below meth c H locs (0) (0) Q (F0 m 2 ls []) := by
    intro n_
    induction n_ with
    | zero => intro i hm_; exact absurd hm_ (Nat.not_lt_zero _)
    | succ n_ ih_2 =>
      intro i hm_ hi hN H locs ls hP hD hS hl
      refine lv_iload_n hx hb d_CP_staysNear_2 rfl (lv_at hl 3 rfl) ?_
      refine lv_iload_n hx hb d_CP_staysNear_3 rfl (lv_at hl 1 rfl) ?_
      refine bn_ge (a1 := i) (b1 := ct_) (tgt := 28) hx hb (by omega) (by omega) d_CP_staysNear_4 (by decide) (fun c_1 => ?_) (fun c_1 => ?_)
      · skip
        refine lv_iconst (v := 1) hx hb d_CP_staysNear_28 (by decide) ?_
        exact ct_retz hQ hx hb hr hlocks hP hD hS (true) [(q, .inl (cI, nr, .inl X))] [0] (rfl) (⟨fun _ k h => hN k (by omega), fun _ => rfl⟩) (rfl) rfl rfl (by decide) (by omega) (by omega) d_CP_staysNear_29
      · skip
        refine lv_aload_n hx hb d_CP_staysNear_7 rfl (lv_at hl 0 rfl) ?_
        refine lv_iload_n hx hb d_CP_staysNear_8 rfl (lv_at hl 3 rfl) ?_
        refine ld_i hx hb hK hP 0 0 rfl rfl i (by omega) (by omega) d_CP_staysNear_9 ?_
        refine lv_i2l (v := (X i).toInt64) hx hb d_CP_staysNear_10 rfl ?_
        refine lv_iload_n hx hb d_CP_staysNear_11 rfl (lv_at hl 2 rfl) ?_
        refine lv_i2l (v := dl.toInt64) hx hb d_CP_staysNear_12 rfl ?_
        refine lv_ladd hx hb d_CP_staysNear_13 ?_
        refine ct_callS (av := [.long (((X i).toInt64) + dl.toInt64)]) (rest := []) (wr := [(q, .inl (cI, nr, .inl X))]) (n := 1) (c_CP_isFar l D cI cB cJ qQ  (((X i).toInt64) + dl.toInt64) ) hx hb hml hown hts (amb_ok qQ) hK hP hD hS hA hM (gi_S gw_161 gw_162 gw_28 gw_163) rfl (by decide +kernel) ⟨by omega, by omega⟩ [] [0] rfl rfl rfl rfl (by decide) rfl hl.1 rfl (Nat.le_of_ble_eq_true rfl) d_CP_staysNear_14 ⟨by omega, by omega⟩ (fun u_2 H locs hok hP hD hS => ?_)
        have hP : va_P D cl [(q, .inl (cI, nr, .inl X))] H := hP
        have hD : va_D A [(q, .inl (cI, nr, .inl X))] := hD
        refine W.eq (g2 := F0 m 17 ls [.int (bz (fr (((X i).toInt64) + dl.toInt64)))]) rfl ?_
        refine bb_eq (tgt := 22) hx hb d_CP_staysNear_17 (by decide) (fun c_3 => ?_) (fun c_3 => ?_)
        · skip
          refine lv_iinc (v := nI (i + 1)) (lv' := [(3, .int (nI (i + 1))), (0, .ref q), (1, .int (nI ct_)), (2, .int dl)]) hx hb d_CP_staysNear_22 hl (k := 3) rfl (by first | exact nI_add _ 1 | rfl | decide) (by decide) rfl (fun ls hl => ?_)
          refine lv_goto (tgt := 2) hx hb d_CP_staysNear_25 (by decide) ?_
          exact ih_2 (i + 1) (by omega) (by omega) (fun k h => by
      by_cases h9 : k = i
      · rw [h9]; exact c_3
      · exact hN k (by omega)) _ _ _ hP hD hS (lv_sub hl [1, 2, 3, 0] rfl)
        · skip
          refine lv_iconst (v := 0) hx hb d_CP_staysNear_20 (by decide) ?_
          exact ct_retz hQ hx hb hr hlocks hP hD hS (false) [(q, .inl (cI, nr, .inl X))] [0] (rfl) (⟨fun h => absurd h (by decide), fun h => absurd (h i (by omega)) (by rw [c_3]; decide)⟩) (rfl) rfl rfl (by decide) (by omega) (by omega) d_CP_staysNear_21
  exact L_2 ((ct_ - 0) + 1) 0 (Nat.lt_succ_self _) (by omega) (fun k h => absurd h (Nat.not_lt_zero k)) _ _ _ hP hD hS (lv_sub hl [1, 2, 3, 0] rfl)
set_option maxHeartbeats 4000000 in
set_option maxRecDepth 100000 in
/-- addToAll -/
theorem c_CP_addToAll (l : Launch) (D : va_G) (cI cB cJ : ClassId) (qQ : Nat) (q : Nat) (nr : Nat) (X : Nat → Int32) (ct_ : Nat) (dl : Int32) (hc : ct_ ≤ nr) (hr_ : nr ≤ 9000) : ct l D cl [(cI, .int), (cB, .byte), (cJ, .long)] (amb qQ) y_CP_addToAll w_CP_addToAll 0 0 (0) (0) [.ref q, .int (nI ct_), .int dl] [(q, .inl (cI, nr, .inl X))] (fun X' : Nat → Int32 => ∀ k, X' k = if k < ct_ then X k + dl else X k) (fun X' : Nat → Int32 => none) (fun X' : Nat → Int32 => [(q, .inl (cI, nr, .inl X'))]) := by
  refine ct_ofW (cc := b_CP_addToAll) (maxL := 4) (ret := none) (by decide) rfl (Nat.le_of_ble_eq_true rfl) ?_
  intro p e R s m args below meth c A Q ls hx hb hr hml hts hown hlocks hname hRf hRc hRs hRl hQ hK hP hD hS hA hM hl
  have hl : lv_has ls 4 [(0, .ref q), (1, .int (nI ct_)), (2, .int dl)] := hl
  refine lv_iconst (v := 0) hx hb d_CP_addToAll_0 (by decide) ?_
  refine lv_istore_n (lv' := [(3, .int 0), (0, .ref q), (1, .int (nI ct_)), (2, .int dl)]) hx hb d_CP_addToAll_1 rfl hl (by decide) rfl (fun ls hl => ?_)
  have L_2 : ∀ (n_ : Nat) (i : Nat) (X_ : Nat → Int32), ct_ - i < n_ → (i ≤ ct_) → (∀ k, X_ k = if k < i then X k + dl else X k) → ∀ (H : Heap) (locs : List Loc) (ls : Array Slot), va_P D cl [(q, .inl (cI, nr, .inl X_))] H → va_D A [(q, .inl (cI, nr, .inl X_))] → va_S A s.heap H locs → lv_has ls 4 [(0, .ref q), (1, .int (nI ct_)), (2, .int dl), (3, .int (nI i))] → W p l e R s m args below meth c H locs (0) (0) Q (F0 m 2 ls []) := by
    intro n_
    induction n_ with
    | zero => intro i X_ hm_; exact absurd hm_ (Nat.not_lt_zero _)
    | succ n_ ih_2 =>
      intro i X_ hm_ hi hX H locs ls hP hD hS hl
      refine lv_iload_n hx hb d_CP_addToAll_2 rfl (lv_at hl 3 rfl) ?_
      refine lv_iload_n hx hb d_CP_addToAll_3 rfl (lv_at hl 1 rfl) ?_
      refine bn_ge (a1 := i) (b1 := ct_) (tgt := 20) hx hb (by omega) (by omega) d_CP_addToAll_4 (by decide) (fun c_1 => ?_) (fun c_1 => ?_)
      · skip
        have hX9 : ∀ k, X_ k = if k < ct_ then X k + dl else X k := by rw [show ct_ = i by omega]; exact hX
        exact ct_retv hQ hx hb hr hlocks hP hD hS (X_) [(q, .inl (cI, nr, .inl X_))] [0] (rfl) (hX9) (rfl) rfl rfl (by omega) (by omega) d_CP_addToAll_20
      · skip
        refine lv_aload_n hx hb d_CP_addToAll_7 rfl (lv_at hl 0 rfl) ?_
        refine lv_iload_n hx hb d_CP_addToAll_8 rfl (lv_at hl 3 rfl) ?_
        refine lv_dup2_11 hx hb d_CP_addToAll_9 rfl rfl ?_
        refine ld_i hx hb hK hP 0 0 rfl rfl i (by omega) (by omega) d_CP_addToAll_10 ?_
        refine lv_iload_n hx hb d_CP_addToAll_11 rfl (lv_at hl 2 rfl) ?_
        refine lv_iadd hx hb d_CP_addToAll_12 ?_
        refine st_i hx hb hK hP hD hS 0 0 rfl rfl i (by omega) (by omega) d_CP_addToAll_13 (fun H locs hP hD hS => ?_)
        have hP : va_P D cl [(q, .inl (cI, nr, .inl (upd X_ i ((X_ i) + dl))))] H := hP
        have hD : va_D A [(q, .inl (cI, nr, .inl (upd X_ i ((X_ i) + dl))))] := hD
        refine lv_iinc (v := nI (i + 1)) (lv' := [(3, .int (nI (i + 1))), (0, .ref q), (1, .int (nI ct_)), (2, .int dl)]) hx hb d_CP_addToAll_14 hl (k := 3) rfl (by first | exact nI_add _ 1 | rfl | decide) (by decide) rfl (fun ls hl => ?_)
        refine lv_goto (tgt := 2) hx hb d_CP_addToAll_17 (by decide) ?_
        exact ih_2 (i + 1) (upd X_ i ((X_ i) + dl)) (by omega) (by omega) (fun k => by
      by_cases h9 : k = i
      · rw [h9, up_s, hX, if_neg (Nat.lt_irrefl i), if_pos (Nat.lt_succ_self i)]
      · rw [up_n h9, hX]; by_cases h8 : k < i
        · rw [if_pos h8, if_pos (by omega)]
        · rw [if_neg h8, if_neg (by omega)]) _ _ _ hP hD hS (lv_sub hl [1, 2, 3, 0] rfl)
  exact L_2 ((ct_ - 0) + 1) 0 X (Nat.lt_succ_self _) (by omega) (fun k => (if_neg (Nat.not_lt_zero k)).symm) _ _ _ hP hD hS (lv_sub hl [1, 2, 3, 0] rfl)
set_option maxHeartbeats 4000000 in
set_option maxRecDepth 100000 in
/-- least -/
theorem c_CP_least (l : Launch) (D : va_G) (cI cB cJ : ClassId) (qQ : Nat) (q : Nat) (nr : Nat) (X : Nat → Int32) (ct_ : Nat) (hc : ct_ ≤ nr) (hr_ : nr ≤ 9000) : ct l D cl [(cI, .int), (cB, .byte), (cJ, .long)] (amb qQ) y_CP_least w_CP_least 1 21 (0) (0) [.ref q, .int (nI ct_)] [(q, .inl (cI, nr, .inl X))] (fun _ : Unit => True) (fun _ : Unit => some (.int (rowMin X ct_))) (fun _ : Unit => [(q, .inl (cI, nr, .inl X))]) := by
  refine ct_ofW (cc := b_CP_least) (maxL := 4) (ret := (some .int)) (by decide) rfl (Nat.le_of_ble_eq_true rfl) ?_
  intro p e R s m args below meth c A Q ls hx hb hr hml hts hown hlocks hname hRf hRc hRs hRl hQ hK hP hD hS hA hM hl
  have hl : lv_has ls 4 [(0, .ref q), (1, .int (nI ct_))] := hl
  refine lv_iload_n hx hb d_CP_least_0 rfl (lv_at hl 1 rfl) ?_
  refine bz_le (a1 := ct_) (tgt := 10) hx hb (by omega) d_CP_least_1 (by decide) (fun c_1 => ?_) (fun c_1 => ?_)
  · skip
    refine lv_iconst (v := 0) hx hb d_CP_least_10 (by decide) ?_
    refine lv_istore_n (lv' := [(2, .int 0), (0, .ref q), (1, .int (nI ct_))]) hx hb d_CP_least_11 rfl hl (by decide) rfl (fun ls hl => ?_)
    refine lv_iconst (v := 1) hx hb d_CP_least_12 (by decide) ?_
    refine lv_istore_n (lv' := [(3, .int 1), (2, .int 0), (0, .ref q), (1, .int (nI ct_))]) hx hb d_CP_least_13 rfl hl (by decide) rfl (fun ls hl => ?_)
    have L_14 : ∀ (n_ : Nat) (i : Nat) (fd : Int32), ct_ - i < n_ → (1 ≤ i) → (i ≤ ct_ ∨ (i = 1 ∧ ct_ = 0)) → (fd = if ct_ = 0 then 0 else rowMin X i) → ∀ (H : Heap) (locs : List Loc) (ls : Array Slot), va_P D cl [(q, .inl (cI, nr, .inl X))] H → va_D A [(q, .inl (cI, nr, .inl X))] → va_S A s.heap H locs → lv_has ls 4 [(0, .ref q), (1, .int (nI ct_)), (2, .int fd), (3, .int (nI i))] → W p l e R s m args below meth c H locs (0) (0) Q (F0 m 14 ls []) := by
      intro n_
      induction n_ with
      | zero => intro i fd hm_; exact absurd hm_ (Nat.not_lt_zero _)
      | succ n_ ih_14 =>
        intro i fd hm_ hi1 hic hF H locs ls hP hD hS hl
        refine lv_iload_n hx hb d_CP_least_14 rfl (lv_at hl 3 rfl) ?_
        refine lv_iload_n hx hb d_CP_least_15 rfl (lv_at hl 1 rfl) ?_
        refine bn_ge (a1 := i) (b1 := ct_) (tgt := 33) hx hb (by omega) (by omega) d_CP_least_16 (by decide) (fun c_2 => ?_) (fun c_2 => ?_)
        · skip
          refine lv_iload_n hx hb d_CP_least_33 rfl (lv_at hl 2 rfl) ?_
          exact ct_reti hQ hx hb hr hlocks hP hD hS () [(q, .inl (cI, nr, .inl X))] [0] (by
      rw [hF]
      by_cases h0 : ct_ = 0
      · rw [if_pos h0, h0]; rfl
      · rw [if_neg h0, show i = ct_ by omega]) (trivial) (rfl) rfl rfl (by omega) (by omega) d_CP_least_34
        · skip
          refine lv_iload_n hx hb d_CP_least_19 rfl (lv_at hl 2 rfl) ?_
          refine lv_aload_n hx hb d_CP_least_20 rfl (lv_at hl 0 rfl) ?_
          refine lv_iload_n hx hb d_CP_least_21 rfl (lv_at hl 3 rfl) ?_
          refine ld_i hx hb hK hP 0 0 rfl rfl i (by omega) (by omega) d_CP_least_22 ?_
          refine ct_callS (av := [.int fd, .int (X i)]) (rest := []) (wr := [(q, .inl (cI, nr, .inl X))]) (n := 2) (c_min l D cI cB cJ qQ  fd (X i) ) hx hb hml hown hts (amb_ok qQ) hK hP hD hS hA hM (gi_S gw_469 gw_470 gw_35 gw_471) rfl (by decide +kernel) ⟨by omega, by omega⟩ [] [0] rfl rfl rfl rfl (by decide) rfl hl.1 rfl (Nat.le_of_ble_eq_true rfl) d_CP_least_23 ⟨by omega, by omega⟩ (fun u_3 H locs hok hP hD hS => ?_)
          have hP : va_P D cl [(q, .inl (cI, nr, .inl X))] H := hP
          have hD : va_D A [(q, .inl (cI, nr, .inl X))] := hD
          refine W.eq (g2 := F0 m 26 ls [.int (i32min fd (X i))]) rfl ?_
          refine lv_istore_n (lv' := [(2, .int (i32min fd (X i))), (0, .ref q), (1, .int (nI ct_)), (3, .int (nI i))]) hx hb d_CP_least_26 rfl hl (by decide) rfl (fun ls hl => ?_)
          refine lv_iinc (v := nI (i + 1)) (lv' := [(3, .int (nI (i + 1))), (2, .int (i32min fd (X i))), (0, .ref q), (1, .int (nI ct_))]) hx hb d_CP_least_27 hl (k := 3) rfl (by first | exact nI_add _ 1 | rfl | decide) (by decide) rfl (fun ls hl => ?_)
          refine lv_goto (tgt := 14) hx hb d_CP_least_30 (by decide) ?_
          exact ih_14 (i + 1) (i32min fd (X i)) (by omega) (by omega) (by omega) (by rw [if_neg (by omega), rowMin_s hi1]; rw [if_neg (by omega)] at hF; rw [hF]) _ _ _ hP hD hS (lv_sub hl [2, 3, 1, 0] rfl)
    exact L_14 ((ct_ - 1) + 1) 1 0 (Nat.lt_succ_self _) (by omega) (by omega) ((if_pos c_1).symm) _ _ _ hP hD hS (lv_sub hl [2, 3, 1, 0] rfl)
  · skip
    refine lv_aload_n hx hb d_CP_least_4 rfl (lv_at hl 0 rfl) ?_
    refine lv_iconst (v := 0) hx hb d_CP_least_5 (by decide) ?_
    refine ld_i hx hb hK hP 0 0 rfl rfl 0 (by omega) (by omega) d_CP_least_6 ?_
    refine lv_goto (tgt := 11) hx hb d_CP_least_7 (by decide) ?_
    refine lv_istore_n (lv' := [(2, .int (X 0)), (0, .ref q), (1, .int (nI ct_))]) hx hb d_CP_least_11 rfl hl (by decide) rfl (fun ls hl => ?_)
    refine lv_iconst (v := 1) hx hb d_CP_least_12 (by decide) ?_
    refine lv_istore_n (lv' := [(3, .int 1), (2, .int (X 0)), (0, .ref q), (1, .int (nI ct_))]) hx hb d_CP_least_13 rfl hl (by decide) rfl (fun ls hl => ?_)
    have L_14 : ∀ (n_ : Nat) (i : Nat) (fd : Int32), ct_ - i < n_ → (1 ≤ i) → (i ≤ ct_ ∨ (i = 1 ∧ ct_ = 0)) → (fd = if ct_ = 0 then 0 else rowMin X i) → ∀ (H : Heap) (locs : List Loc) (ls : Array Slot), va_P D cl [(q, .inl (cI, nr, .inl X))] H → va_D A [(q, .inl (cI, nr, .inl X))] → va_S A s.heap H locs → lv_has ls 4 [(0, .ref q), (1, .int (nI ct_)), (2, .int fd), (3, .int (nI i))] → W p l e R s m args below meth c H locs (0) (0) Q (F0 m 14 ls []) := by
      intro n_
      induction n_ with
      | zero => intro i fd hm_; exact absurd hm_ (Nat.not_lt_zero _)
      | succ n_ ih_14 =>
        intro i fd hm_ hi1 hic hF H locs ls hP hD hS hl
        refine lv_iload_n hx hb d_CP_least_14 rfl (lv_at hl 3 rfl) ?_
        refine lv_iload_n hx hb d_CP_least_15 rfl (lv_at hl 1 rfl) ?_
        refine bn_ge (a1 := i) (b1 := ct_) (tgt := 33) hx hb (by omega) (by omega) d_CP_least_16 (by decide) (fun c_4 => ?_) (fun c_4 => ?_)
        · skip
          refine lv_iload_n hx hb d_CP_least_33 rfl (lv_at hl 2 rfl) ?_
          exact ct_reti hQ hx hb hr hlocks hP hD hS () [(q, .inl (cI, nr, .inl X))] [0] (by
      rw [hF]
      by_cases h0 : ct_ = 0
      · rw [if_pos h0, h0]; rfl
      · rw [if_neg h0, show i = ct_ by omega]) (trivial) (rfl) rfl rfl (by omega) (by omega) d_CP_least_34
        · skip
          refine lv_iload_n hx hb d_CP_least_19 rfl (lv_at hl 2 rfl) ?_
          refine lv_aload_n hx hb d_CP_least_20 rfl (lv_at hl 0 rfl) ?_
          refine lv_iload_n hx hb d_CP_least_21 rfl (lv_at hl 3 rfl) ?_
          refine ld_i hx hb hK hP 0 0 rfl rfl i (by omega) (by omega) d_CP_least_22 ?_
          refine ct_callS (av := [.int fd, .int (X i)]) (rest := []) (wr := [(q, .inl (cI, nr, .inl X))]) (n := 2) (c_min l D cI cB cJ qQ  fd (X i) ) hx hb hml hown hts (amb_ok qQ) hK hP hD hS hA hM (gi_S gw_469 gw_470 gw_35 gw_471) rfl (by decide +kernel) ⟨by omega, by omega⟩ [] [0] rfl rfl rfl rfl (by decide) rfl hl.1 rfl (Nat.le_of_ble_eq_true rfl) d_CP_least_23 ⟨by omega, by omega⟩ (fun u_5 H locs hok hP hD hS => ?_)
          have hP : va_P D cl [(q, .inl (cI, nr, .inl X))] H := hP
          have hD : va_D A [(q, .inl (cI, nr, .inl X))] := hD
          refine W.eq (g2 := F0 m 26 ls [.int (i32min fd (X i))]) rfl ?_
          refine lv_istore_n (lv' := [(2, .int (i32min fd (X i))), (0, .ref q), (1, .int (nI ct_)), (3, .int (nI i))]) hx hb d_CP_least_26 rfl hl (by decide) rfl (fun ls hl => ?_)
          refine lv_iinc (v := nI (i + 1)) (lv' := [(3, .int (nI (i + 1))), (2, .int (i32min fd (X i))), (0, .ref q), (1, .int (nI ct_))]) hx hb d_CP_least_27 hl (k := 3) rfl (by first | exact nI_add _ 1 | rfl | decide) (by decide) rfl (fun ls hl => ?_)
          refine lv_goto (tgt := 14) hx hb d_CP_least_30 (by decide) ?_
          exact ih_14 (i + 1) (i32min fd (X i)) (by omega) (by omega) (by omega) (by rw [if_neg (by omega), rowMin_s hi1]; rw [if_neg (by omega)] at hF; rw [hF]) _ _ _ hP hD hS (lv_sub hl [2, 3, 1, 0] rfl)
    exact L_14 ((ct_ - 1) + 1) 1 (X 0) (Nat.lt_succ_self _) (by omega) (by omega) ((if_neg (by omega)).symm) _ _ _ hP hD hS (lv_sub hl [2, 3, 1, 0] rfl)
set_option maxHeartbeats 4000000 in
set_option maxRecDepth 100000 in
/-- greatest -/
theorem c_CP_greatest (l : Launch) (D : va_G) (cI cB cJ : ClassId) (qQ : Nat) (q : Nat) (nr : Nat) (X : Nat → Int32) (ct_ : Nat) (hc : ct_ ≤ nr) (hr_ : nr ≤ 9000) : ct l D cl [(cI, .int), (cB, .byte), (cJ, .long)] (amb qQ) y_CP_greatest w_CP_greatest 1 21 (0) (0) [.ref q, .int (nI ct_)] [(q, .inl (cI, nr, .inl X))] (fun _ : Unit => True) (fun _ : Unit => some (.int (rowMax X ct_))) (fun _ : Unit => [(q, .inl (cI, nr, .inl X))]) := by
  refine ct_ofW (cc := b_CP_greatest) (maxL := 4) (ret := (some .int)) (by decide) rfl (Nat.le_of_ble_eq_true rfl) ?_
  intro p e R s m args below meth c A Q ls hx hb hr hml hts hown hlocks hname hRf hRc hRs hRl hQ hK hP hD hS hA hM hl
  have hl : lv_has ls 4 [(0, .ref q), (1, .int (nI ct_))] := hl
  refine lv_iload_n hx hb d_CP_greatest_0 rfl (lv_at hl 1 rfl) ?_
  refine bz_le (a1 := ct_) (tgt := 10) hx hb (by omega) d_CP_greatest_1 (by decide) (fun c_1 => ?_) (fun c_1 => ?_)
  · skip
    refine lv_iconst (v := 0) hx hb d_CP_greatest_10 (by decide) ?_
    refine lv_istore_n (lv' := [(2, .int 0), (0, .ref q), (1, .int (nI ct_))]) hx hb d_CP_greatest_11 rfl hl (by decide) rfl (fun ls hl => ?_)
    refine lv_iconst (v := 1) hx hb d_CP_greatest_12 (by decide) ?_
    refine lv_istore_n (lv' := [(3, .int 1), (2, .int 0), (0, .ref q), (1, .int (nI ct_))]) hx hb d_CP_greatest_13 rfl hl (by decide) rfl (fun ls hl => ?_)
    have L_14 : ∀ (n_ : Nat) (i : Nat) (fd : Int32), ct_ - i < n_ → (1 ≤ i) → (i ≤ ct_ ∨ (i = 1 ∧ ct_ = 0)) → (fd = if ct_ = 0 then 0 else rowMax X i) → ∀ (H : Heap) (locs : List Loc) (ls : Array Slot), va_P D cl [(q, .inl (cI, nr, .inl X))] H → va_D A [(q, .inl (cI, nr, .inl X))] → va_S A s.heap H locs → lv_has ls 4 [(0, .ref q), (1, .int (nI ct_)), (2, .int fd), (3, .int (nI i))] → W p l e R s m args below meth c H locs (0) (0) Q (F0 m 14 ls []) := by
      intro n_
      induction n_ with
      | zero => intro i fd hm_; exact absurd hm_ (Nat.not_lt_zero _)
      | succ n_ ih_14 =>
        intro i fd hm_ hi1 hic hF H locs ls hP hD hS hl
        refine lv_iload_n hx hb d_CP_greatest_14 rfl (lv_at hl 3 rfl) ?_
        refine lv_iload_n hx hb d_CP_greatest_15 rfl (lv_at hl 1 rfl) ?_
        refine bn_ge (a1 := i) (b1 := ct_) (tgt := 33) hx hb (by omega) (by omega) d_CP_greatest_16 (by decide) (fun c_2 => ?_) (fun c_2 => ?_)
        · skip
          refine lv_iload_n hx hb d_CP_greatest_33 rfl (lv_at hl 2 rfl) ?_
          exact ct_reti hQ hx hb hr hlocks hP hD hS () [(q, .inl (cI, nr, .inl X))] [0] (by
      rw [hF]
      by_cases h0 : ct_ = 0
      · rw [if_pos h0, h0]; rfl
      · rw [if_neg h0, show i = ct_ by omega]) (trivial) (rfl) rfl rfl (by omega) (by omega) d_CP_greatest_34
        · skip
          refine lv_iload_n hx hb d_CP_greatest_19 rfl (lv_at hl 2 rfl) ?_
          refine lv_aload_n hx hb d_CP_greatest_20 rfl (lv_at hl 0 rfl) ?_
          refine lv_iload_n hx hb d_CP_greatest_21 rfl (lv_at hl 3 rfl) ?_
          refine ld_i hx hb hK hP 0 0 rfl rfl i (by omega) (by omega) d_CP_greatest_22 ?_
          refine ct_callS (av := [.int fd, .int (X i)]) (rest := []) (wr := [(q, .inl (cI, nr, .inl X))]) (n := 2) (c_max l D cI cB cJ qQ  fd (X i) ) hx hb hml hown hts (amb_ok qQ) hK hP hD hS hA hM (gi_S gw_475 gw_390 gw_35 gw_391) rfl (by decide +kernel) ⟨by omega, by omega⟩ [] [0] rfl rfl rfl rfl (by decide) rfl hl.1 rfl (Nat.le_of_ble_eq_true rfl) d_CP_greatest_23 ⟨by omega, by omega⟩ (fun u_3 H locs hok hP hD hS => ?_)
          have hP : va_P D cl [(q, .inl (cI, nr, .inl X))] H := hP
          have hD : va_D A [(q, .inl (cI, nr, .inl X))] := hD
          refine W.eq (g2 := F0 m 26 ls [.int (i32max fd (X i))]) rfl ?_
          refine lv_istore_n (lv' := [(2, .int (i32max fd (X i))), (0, .ref q), (1, .int (nI ct_)), (3, .int (nI i))]) hx hb d_CP_greatest_26 rfl hl (by decide) rfl (fun ls hl => ?_)
          refine lv_iinc (v := nI (i + 1)) (lv' := [(3, .int (nI (i + 1))), (2, .int (i32max fd (X i))), (0, .ref q), (1, .int (nI ct_))]) hx hb d_CP_greatest_27 hl (k := 3) rfl (by first | exact nI_add _ 1 | rfl | decide) (by decide) rfl (fun ls hl => ?_)
          refine lv_goto (tgt := 14) hx hb d_CP_greatest_30 (by decide) ?_
          exact ih_14 (i + 1) (i32max fd (X i)) (by omega) (by omega) (by omega) (by rw [if_neg (by omega), rowMax_s hi1]; rw [if_neg (by omega)] at hF; rw [hF]) _ _ _ hP hD hS (lv_sub hl [2, 3, 1, 0] rfl)
    exact L_14 ((ct_ - 1) + 1) 1 0 (Nat.lt_succ_self _) (by omega) (by omega) ((if_pos c_1).symm) _ _ _ hP hD hS (lv_sub hl [2, 3, 1, 0] rfl)
  · skip
    refine lv_aload_n hx hb d_CP_greatest_4 rfl (lv_at hl 0 rfl) ?_
    refine lv_iconst (v := 0) hx hb d_CP_greatest_5 (by decide) ?_
    refine ld_i hx hb hK hP 0 0 rfl rfl 0 (by omega) (by omega) d_CP_greatest_6 ?_
    refine lv_goto (tgt := 11) hx hb d_CP_greatest_7 (by decide) ?_
    refine lv_istore_n (lv' := [(2, .int (X 0)), (0, .ref q), (1, .int (nI ct_))]) hx hb d_CP_greatest_11 rfl hl (by decide) rfl (fun ls hl => ?_)
    refine lv_iconst (v := 1) hx hb d_CP_greatest_12 (by decide) ?_
    refine lv_istore_n (lv' := [(3, .int 1), (2, .int (X 0)), (0, .ref q), (1, .int (nI ct_))]) hx hb d_CP_greatest_13 rfl hl (by decide) rfl (fun ls hl => ?_)
    have L_14 : ∀ (n_ : Nat) (i : Nat) (fd : Int32), ct_ - i < n_ → (1 ≤ i) → (i ≤ ct_ ∨ (i = 1 ∧ ct_ = 0)) → (fd = if ct_ = 0 then 0 else rowMax X i) → ∀ (H : Heap) (locs : List Loc) (ls : Array Slot), va_P D cl [(q, .inl (cI, nr, .inl X))] H → va_D A [(q, .inl (cI, nr, .inl X))] → va_S A s.heap H locs → lv_has ls 4 [(0, .ref q), (1, .int (nI ct_)), (2, .int fd), (3, .int (nI i))] → W p l e R s m args below meth c H locs (0) (0) Q (F0 m 14 ls []) := by
      intro n_
      induction n_ with
      | zero => intro i fd hm_; exact absurd hm_ (Nat.not_lt_zero _)
      | succ n_ ih_14 =>
        intro i fd hm_ hi1 hic hF H locs ls hP hD hS hl
        refine lv_iload_n hx hb d_CP_greatest_14 rfl (lv_at hl 3 rfl) ?_
        refine lv_iload_n hx hb d_CP_greatest_15 rfl (lv_at hl 1 rfl) ?_
        refine bn_ge (a1 := i) (b1 := ct_) (tgt := 33) hx hb (by omega) (by omega) d_CP_greatest_16 (by decide) (fun c_4 => ?_) (fun c_4 => ?_)
        · skip
          refine lv_iload_n hx hb d_CP_greatest_33 rfl (lv_at hl 2 rfl) ?_
          exact ct_reti hQ hx hb hr hlocks hP hD hS () [(q, .inl (cI, nr, .inl X))] [0] (by
      rw [hF]
      by_cases h0 : ct_ = 0
      · rw [if_pos h0, h0]; rfl
      · rw [if_neg h0, show i = ct_ by omega]) (trivial) (rfl) rfl rfl (by omega) (by omega) d_CP_greatest_34
        · skip
          refine lv_iload_n hx hb d_CP_greatest_19 rfl (lv_at hl 2 rfl) ?_
          refine lv_aload_n hx hb d_CP_greatest_20 rfl (lv_at hl 0 rfl) ?_
          refine lv_iload_n hx hb d_CP_greatest_21 rfl (lv_at hl 3 rfl) ?_
          refine ld_i hx hb hK hP 0 0 rfl rfl i (by omega) (by omega) d_CP_greatest_22 ?_
          refine ct_callS (av := [.int fd, .int (X i)]) (rest := []) (wr := [(q, .inl (cI, nr, .inl X))]) (n := 2) (c_max l D cI cB cJ qQ  fd (X i) ) hx hb hml hown hts (amb_ok qQ) hK hP hD hS hA hM (gi_S gw_475 gw_390 gw_35 gw_391) rfl (by decide +kernel) ⟨by omega, by omega⟩ [] [0] rfl rfl rfl rfl (by decide) rfl hl.1 rfl (Nat.le_of_ble_eq_true rfl) d_CP_greatest_23 ⟨by omega, by omega⟩ (fun u_5 H locs hok hP hD hS => ?_)
          have hP : va_P D cl [(q, .inl (cI, nr, .inl X))] H := hP
          have hD : va_D A [(q, .inl (cI, nr, .inl X))] := hD
          refine W.eq (g2 := F0 m 26 ls [.int (i32max fd (X i))]) rfl ?_
          refine lv_istore_n (lv' := [(2, .int (i32max fd (X i))), (0, .ref q), (1, .int (nI ct_)), (3, .int (nI i))]) hx hb d_CP_greatest_26 rfl hl (by decide) rfl (fun ls hl => ?_)
          refine lv_iinc (v := nI (i + 1)) (lv' := [(3, .int (nI (i + 1))), (2, .int (i32max fd (X i))), (0, .ref q), (1, .int (nI ct_))]) hx hb d_CP_greatest_27 hl (k := 3) rfl (by first | exact nI_add _ 1 | rfl | decide) (by decide) rfl (fun ls hl => ?_)
          refine lv_goto (tgt := 14) hx hb d_CP_greatest_30 (by decide) ?_
          exact ih_14 (i + 1) (i32max fd (X i)) (by omega) (by omega) (by omega) (by rw [if_neg (by omega), rowMax_s hi1]; rw [if_neg (by omega)] at hF; rw [hF]) _ _ _ hP hD hS (lv_sub hl [2, 3, 1, 0] rfl)
    exact L_14 ((ct_ - 1) + 1) 1 (X 0) (Nat.lt_succ_self _) (by omega) (by omega) ((if_neg (by omega)).symm) _ _ _ hP hD hS (lv_sub hl [2, 3, 1, 0] rfl)
set_option maxHeartbeats 4000000 in
set_option maxRecDepth 100000 in
/-- turnRow -/
theorem c_CP_turnRow (l : Launch) (D : va_G) (cI cB cJ : ClassId) (qQ : Nat) (q : Nat) (nr : Nat) (X : Nat → Int32) (f : Nat) (t : Nat) (ht : t < nr) (hft : f ≤ t + 1) (hr_ : nr ≤ 9000) : ct l D cl [(cI, .int), (cB, .byte), (cJ, .long)] (amb qQ) y_CP_turnRow w_CP_turnRow 0 0 (0) (0) [.ref q, .int (nI f), .int (nI t)] [(q, .inl (cI, nr, .inl X))] (fun X' : Nat → Int32 => ∀ k, X' k = tr X f t k) (fun X' : Nat → Int32 => none) (fun X' : Nat → Int32 => [(q, .inl (cI, nr, .inl X'))]) := by
  refine ct_ofW (cc := b_CP_turnRow) (maxL := 6) (ret := none) (by decide) rfl (Nat.le_of_ble_eq_true rfl) ?_
  intro p e R s m args below meth c A Q ls hx hb hr hml hts hown hlocks hname hRf hRc hRs hRl hQ hK hP hD hS hA hM hl
  have hl : lv_has ls 6 [(0, .ref q), (1, .int (nI f)), (2, .int (nI t))] := hl
  refine lv_iload_n hx hb d_CP_turnRow_0 rfl (lv_at hl 1 rfl) ?_
  refine lv_istore_n (lv' := [(3, .int (nI f)), (0, .ref q), (1, .int (nI f)), (2, .int (nI t))]) hx hb d_CP_turnRow_1 rfl hl (by decide) rfl (fun ls hl => ?_)
  refine lv_iload_n hx hb d_CP_turnRow_2 rfl (lv_at hl 3 rfl) ?_
  refine lv_istore (lv' := [(4, .int (nI t)), (3, .int (nI f)), (0, .ref q), (1, .int (nI f)), (2, .int (nI t))]) hx hb d_CP_turnRow_3 hl (by decide) rfl (fun ls hl => ?_)
  have L_5 : ∀ (n_ : Nat) (i : Nat) (j : Nat) (X_ : Nat → Int32), j < n_ → (i + j = f + t) → (f ≤ i) → (j ≤ t) → (i ≤ j + 1) → (∀ k, X_ k = trn X f t i j k) → ∀ (H : Heap) (locs : List Loc) (ls : Array Slot), va_P D cl [(q, .inl (cI, nr, .inl X_))] H → va_D A [(q, .inl (cI, nr, .inl X_))] → va_S A s.heap H locs → lv_has ls 6 [(0, .ref q), (1, .int (nI f)), (2, .int (nI t)), (3, .int (nI i)), (4, .int (nI j))] → W p l e R s m args below meth c H locs (0) (0) Q (F0 m 5 ls []) := by
    intro n_
    induction n_ with
    | zero => intro i j X_ hm_; exact absurd hm_ (Nat.not_lt_zero _)
    | succ n_ ih_5 =>
      intro i j X_ hm_ hs hf hj hi1 hX H locs ls hP hD hS hl
      refine lv_iload_n hx hb d_CP_turnRow_5 rfl (lv_at hl 3 rfl) ?_
      refine lv_iload hx hb d_CP_turnRow_6 (lv_at hl 4 rfl) ?_
      refine bn_ge (a1 := i) (b1 := j) (tgt := 38) hx hb (by omega) (by omega) d_CP_turnRow_8 (by decide) (fun c_1 => ?_) (fun c_1 => ?_)
      · skip
        exact ct_retv hQ hx hb hr hlocks hP hD hS (X_) [(q, .inl (cI, nr, .inl X_))] [0] (rfl) (fun k => (hX k).trans (trn_end hi1 c_1 hs hf hj k)) (rfl) rfl rfl (by omega) (by omega) d_CP_turnRow_38
      · skip
        refine lv_aload_n hx hb d_CP_turnRow_11 rfl (lv_at hl 0 rfl) ?_
        refine lv_iload_n hx hb d_CP_turnRow_12 rfl (lv_at hl 3 rfl) ?_
        refine ld_i hx hb hK hP 0 0 rfl rfl i (by omega) (by omega) d_CP_turnRow_13 ?_
        refine lv_istore (lv' := [(5, .int (X_ i)), (0, .ref q), (1, .int (nI f)), (2, .int (nI t)), (3, .int (nI i)), (4, .int (nI j))]) hx hb d_CP_turnRow_14 hl (by decide) rfl (fun ls hl => ?_)
        refine lv_aload_n hx hb d_CP_turnRow_16 rfl (lv_at hl 1 rfl) ?_
        refine lv_iload_n hx hb d_CP_turnRow_17 rfl (lv_at hl 4 rfl) ?_
        refine lv_aload_n hx hb d_CP_turnRow_18 rfl (lv_at hl 1 rfl) ?_
        refine lv_iload hx hb d_CP_turnRow_19 (lv_at hl 5 rfl) ?_
        refine ld_i hx hb hK hP 0 0 rfl rfl j (by omega) (by omega) d_CP_turnRow_21 ?_
        refine st_i hx hb hK hP hD hS 0 0 rfl rfl i (by omega) (by omega) d_CP_turnRow_22 (fun H locs hP hD hS => ?_)
        have hP : va_P D cl [(q, .inl (cI, nr, .inl (upd X_ i (X_ j))))] H := hP
        have hD : va_D A [(q, .inl (cI, nr, .inl (upd X_ i (X_ j))))] := hD
        refine lv_aload_n hx hb d_CP_turnRow_23 rfl (lv_at hl 1 rfl) ?_
        refine lv_iload hx hb d_CP_turnRow_24 (lv_at hl 5 rfl) ?_
        refine lv_iload hx hb d_CP_turnRow_26 (lv_at hl 0 rfl) ?_
        refine st_i hx hb hK hP hD hS 0 0 rfl rfl j (by omega) (by omega) d_CP_turnRow_28 (fun H locs hP hD hS => ?_)
        have hP : va_P D cl [(q, .inl (cI, nr, .inl (upd (upd X_ i (X_ j)) j (X_ i))))] H := hP
        have hD : va_D A [(q, .inl (cI, nr, .inl (upd (upd X_ i (X_ j)) j (X_ i))))] := hD
        refine lv_iinc (v := nI (i + 1)) (lv' := [(3, .int (nI (i + 1))), (5, .int (X_ i)), (0, .ref q), (1, .int (nI f)), (2, .int (nI t)), (4, .int (nI j))]) hx hb d_CP_turnRow_29 hl (k := 4) rfl (by first | exact nI_add _ 1 | rfl | decide) (by decide) rfl (fun ls hl => ?_)
        refine lv_iinc (v := nI (j - 1)) (lv' := [(4, .int (nI (j - 1))), (3, .int (nI (i + 1))), (5, .int (X_ i)), (0, .ref q), (1, .int (nI f)), (2, .int (nI t))]) hx hb d_CP_turnRow_32 hl (k := 5) rfl (sb_m1 (show 0 < j by omega)) (by decide) rfl (fun ls hl => ?_)
        refine lv_goto (tgt := 5) hx hb d_CP_turnRow_35 (by decide) ?_
        exact ih_5 (i + 1) (j - 1) (upd (upd X_ i (X_ j)) j (X_ i)) (by omega) (by omega) (by omega) (by omega) (by omega) (trn_step hX c_1 hs hf hj) _ _ _ hP hD hS (lv_sub hl [3, 4, 5, 1, 0] rfl)
  exact L_5 (t + 1) f t X (Nat.lt_succ_self _) (by omega) (by omega) (by omega) (by omega) (trn_0) _ _ _ hP hD hS (lv_sub hl [2, 3, 4, 1, 0] rfl)
set_option maxHeartbeats 4000000 in
set_option maxRecDepth 100000 in
/-- Axes() -/
theorem c_Axes_init (l : Launch) (D : va_G) (cI cB cJ : ClassId) (qQ : Nat) (hx_ : Nat) (p_ : Int64) (q_ : Int64) (r_ : Int64) (s_ : Int64)  : ct l D cl [(cI, .int), (cB, .byte), (cJ, .long)] (amb qQ) y_Axes_init w_Axes_init 1 12 (0) (0) [.ref hx_] [(hx_, .inr (3, [.long p_, .long q_, .long r_, .long s_]))] (fun _ : Unit => True) (fun _ : Unit => none) (fun _ : Unit => [(hx_, .inr (3, [.long p_, .long q_, .long r_, .long s_]))]) := by
  refine ct_ofW (cc := b_Axes_init) (maxL := 1) (ret := none) (by decide) rfl (Nat.le_of_ble_eq_true rfl) ?_
  intro p e R s m args below meth c A Q ls hx hb hr hml hts hown hlocks hname hRf hRc hRs hRl hQ hK hP hD hS hA hM hl
  have hl : lv_has ls 1 [(0, .ref hx_)] := hl
  refine lv_aload_n hx hb d_Axes_init_0 rfl (lv_at hl 0 rfl) ?_
  refine W.objInit hx hb hown (hts _ (gwc gw_49)) (hts _ (gwc gw_42)) (hts _ (gwc gw_objc)) rfl (by rw [hml]; exact hl.1) rfl d_Axes_init_1 (by omega) (by rw [hRl]; exact Nat.le_of_ble_eq_true rfl) ?_
  refine W.eq (g2 := F0 m 4 ls []) rfl ?_
  exact ct_retv hQ hx hb hr hlocks hP hD hS () [(hx_, .inr (3, [.long p_, .long q_, .long r_, .long s_]))] [0] (rfl) (trivial) (rfl) rfl rfl (by omega) (by omega) d_Axes_init_4
set_option maxHeartbeats 4000000 in
set_option maxRecDepth 100000 in
/-- Axes.set -/
theorem c_Axes_set (l : Launch) (D : va_G) (cI cB cJ : ClassId) (qQ : Nat) (hx_ : Nat) (p_ : Int64) (q_ : Int64) (r_ : Int64) (s_ : Int64) (i1 : Int32) (i2 : Int32) (i3 : Int32) (i4 : Int32)  : ct l D cl [(cI, .int), (cB, .byte), (cJ, .long)] (amb qQ) y_Axes_set w_Axes_set 0 0 (0) (0) [.ref hx_, .int i1, .int i2, .int i3, .int i4] [(hx_, .inr (3, [.long p_, .long q_, .long r_, .long s_]))] (fun _ : Unit => True) (fun _ : Unit => none) (fun _ : Unit => [(hx_, .inr (3, [.long i1.toInt64, .long i2.toInt64, .long i3.toInt64, .long i4.toInt64]))]) := by
  refine ct_ofW (cc := b_Axes_set) (maxL := 5) (ret := none) (by decide) rfl (Nat.le_of_ble_eq_true rfl) ?_
  intro p e R s m args below meth c A Q ls hx hb hr hml hts hown hlocks hname hRf hRc hRs hRl hQ hK hP hD hS hA hM hl
  have hl : lv_has ls 5 [(0, .ref hx_), (1, .int i1), (2, .int i2), (3, .int i3), (4, .int i4)] := hl
  refine lv_aload_n hx hb d_Axes_set_0 rfl (lv_at hl 0 rfl) ?_
  refine lv_iload_n hx hb d_Axes_set_1 rfl (lv_at hl 1 rfl) ?_
  refine lv_i2l (v := i1.toInt64) hx hb d_Axes_set_2 rfl ?_
  refine va_put (D := D) (ci := 3) (v := .long i1.toInt64) (ty := .long) (C := R_Axes) (T := T_Axes) (N := 4) hx hb hts (ui_Axes _) t_Axes tk_Axes nk_Axes hown hK hP hD hS 0 rfl rfl 0 (by decide) (hts _ (gwc gw_50)) (fun _ h9 => h9) rfl (by decide +kernel) rfl rfl (Nat.le_of_ble_eq_true rfl) d_Axes_set_3 (fun H locs hP hD hS => ?_)
  have hP : va_P D cl [(hx_, .inr (3, [.long i1.toInt64, .long q_, .long r_, .long s_]))] H := hP
  have hD : va_D A [(hx_, .inr (3, [.long i1.toInt64, .long q_, .long r_, .long s_]))] := hD
  refine lv_aload_n hx hb d_Axes_set_6 rfl (lv_at hl 0 rfl) ?_
  refine lv_iload_n hx hb d_Axes_set_7 rfl (lv_at hl 2 rfl) ?_
  refine lv_i2l (v := i2.toInt64) hx hb d_Axes_set_8 rfl ?_
  refine va_put (D := D) (ci := 3) (v := .long i2.toInt64) (ty := .long) (C := R_Axes) (T := T_Axes) (N := 4) hx hb hts (ui_Axes _) t_Axes tk_Axes nk_Axes hown hK hP hD hS 0 rfl rfl 1 (by decide) (hts _ (gwc gw_51)) (fun _ h9 => h9) rfl (by decide +kernel) rfl rfl (Nat.le_of_ble_eq_true rfl) d_Axes_set_9 (fun H locs hP hD hS => ?_)
  have hP : va_P D cl [(hx_, .inr (3, [.long i1.toInt64, .long i2.toInt64, .long r_, .long s_]))] H := hP
  have hD : va_D A [(hx_, .inr (3, [.long i1.toInt64, .long i2.toInt64, .long r_, .long s_]))] := hD
  refine lv_aload_n hx hb d_Axes_set_12 rfl (lv_at hl 0 rfl) ?_
  refine lv_iload_n hx hb d_Axes_set_13 rfl (lv_at hl 3 rfl) ?_
  refine lv_i2l (v := i3.toInt64) hx hb d_Axes_set_14 rfl ?_
  refine va_put (D := D) (ci := 3) (v := .long i3.toInt64) (ty := .long) (C := R_Axes) (T := T_Axes) (N := 4) hx hb hts (ui_Axes _) t_Axes tk_Axes nk_Axes hown hK hP hD hS 0 rfl rfl 2 (by decide) (hts _ (gwc gw_52)) (fun _ h9 => h9) rfl (by decide +kernel) rfl rfl (Nat.le_of_ble_eq_true rfl) d_Axes_set_15 (fun H locs hP hD hS => ?_)
  have hP : va_P D cl [(hx_, .inr (3, [.long i1.toInt64, .long i2.toInt64, .long i3.toInt64, .long s_]))] H := hP
  have hD : va_D A [(hx_, .inr (3, [.long i1.toInt64, .long i2.toInt64, .long i3.toInt64, .long s_]))] := hD
  refine lv_aload_n hx hb d_Axes_set_18 rfl (lv_at hl 0 rfl) ?_
  refine lv_iload hx hb d_Axes_set_19 (lv_at hl 4 rfl) ?_
  refine lv_i2l (v := i4.toInt64) hx hb d_Axes_set_21 rfl ?_
  refine va_put (D := D) (ci := 3) (v := .long i4.toInt64) (ty := .long) (C := R_Axes) (T := T_Axes) (N := 4) hx hb hts (ui_Axes _) t_Axes tk_Axes nk_Axes hown hK hP hD hS 0 rfl rfl 3 (by decide) (hts _ (gwc gw_53)) (fun _ h9 => h9) rfl (by decide +kernel) rfl rfl (Nat.le_of_ble_eq_true rfl) d_Axes_set_22 (fun H locs hP hD hS => ?_)
  have hP : va_P D cl [(hx_, .inr (3, [.long i1.toInt64, .long i2.toInt64, .long i3.toInt64, .long i4.toInt64]))] H := hP
  have hD : va_D A [(hx_, .inr (3, [.long i1.toInt64, .long i2.toInt64, .long i3.toInt64, .long i4.toInt64]))] := hD
  exact ct_retv hQ hx hb hr hlocks hP hD hS () [(hx_, .inr (3, [.long i1.toInt64, .long i2.toInt64, .long i3.toInt64, .long i4.toInt64]))] [0] (rfl) (trivial) (rfl) rfl rfl (by omega) (by omega) d_Axes_set_25
set_option maxHeartbeats 4000000 in
set_option maxRecDepth 100000 in
/-- alongX -/
theorem c_Axes_alongX (l : Launch) (D : va_G) (cI cB cJ : ClassId) (qQ : Nat) (hx_ : Nat) (p_ : Int64) (q_ : Int64) (r_ : Int64) (s_ : Int64) (a_ : Int32) (b_ : Int32)  : ct l D cl [(cI, .int), (cB, .byte), (cJ, .long)] (amb qQ) y_Axes_alongX w_Axes_alongX 0 0 (0) (0) [.ref hx_, .int a_, .int b_] [(hx_, .inr (3, [.long p_, .long q_, .long r_, .long s_]))] (fun _ : Unit => True) (fun _ : Unit => some (.long (alg a_ b_ p_ r_))) (fun _ : Unit => [(hx_, .inr (3, [.long p_, .long q_, .long r_, .long s_]))]) := by
  refine ct_ofW (cc := b_Axes_alongX) (maxL := 3) (ret := (some .long)) (by decide) rfl (Nat.le_of_ble_eq_true rfl) ?_
  intro p e R s m args below meth c A Q ls hx hb hr hml hts hown hlocks hname hRf hRc hRs hRl hQ hK hP hD hS hA hM hl
  have hl : lv_has ls 3 [(0, .ref hx_), (1, .int a_), (2, .int b_)] := hl
  refine lv_iload_n hx hb d_Axes_alongX_0 rfl (lv_at hl 1 rfl) ?_
  refine lv_i2l (v := a_.toInt64) hx hb d_Axes_alongX_1 rfl ?_
  refine lv_aload_n hx hb d_Axes_alongX_2 rfl (lv_at hl 0 rfl) ?_
  refine va_get (D := D) (ci := 3) (v := .long p_) (C := R_Axes) (T := T_Axes) (N := 4) hx hb hts (ui_Axes _) hown hK hP 0 rfl rfl 0 (by decide) (hts _ (gwc gw_50)) (fun _ h9 => h9) rfl d_Axes_alongX_3 ?_
  refine lv_lmul hx hb d_Axes_alongX_6 ?_
  refine lv_iload_n hx hb d_Axes_alongX_7 rfl (lv_at hl 2 rfl) ?_
  refine lv_i2l (v := b_.toInt64) hx hb d_Axes_alongX_8 rfl ?_
  refine lv_aload_n hx hb d_Axes_alongX_9 rfl (lv_at hl 0 rfl) ?_
  refine va_get (D := D) (ci := 3) (v := .long r_) (C := R_Axes) (T := T_Axes) (N := 4) hx hb hts (ui_Axes _) hown hK hP 0 rfl rfl 2 (by decide) (hts _ (gwc gw_52)) (fun _ h9 => h9) rfl d_Axes_alongX_10 ?_
  refine lv_lmul hx hb d_Axes_alongX_13 ?_
  refine lv_ladd hx hb d_Axes_alongX_14 ?_
  refine lv_ldc2 (v := 32768) hx hb hown (hts _ (gwc gw_326)) d_Axes_alongX_15 ?_
  refine lv_ladd hx hb d_Axes_alongX_18 ?_
  refine lv_bipush (v := 16) hx hb d_Axes_alongX_19 (by decide) ?_
  refine lv_lshr (v := (((a_.toInt64 * p_) + (b_.toInt64 * r_)) + 32768) >>> ((16 : Int32).toInt64 &&& 63)) hx hb d_Axes_alongX_21 rfl ?_
  exact ct_retl hQ hx hb hr hlocks hP hD hS () [(hx_, .inr (3, [.long p_, .long q_, .long r_, .long s_]))] [0] (rfl) (trivial) (rfl) rfl rfl (by omega) (by omega) d_Axes_alongX_22
set_option maxHeartbeats 4000000 in
set_option maxRecDepth 100000 in
/-- alongY -/
theorem c_Axes_alongY (l : Launch) (D : va_G) (cI cB cJ : ClassId) (qQ : Nat) (hx_ : Nat) (p_ : Int64) (q_ : Int64) (r_ : Int64) (s_ : Int64) (a_ : Int32) (b_ : Int32)  : ct l D cl [(cI, .int), (cB, .byte), (cJ, .long)] (amb qQ) y_Axes_alongY w_Axes_alongY 0 0 (0) (0) [.ref hx_, .int a_, .int b_] [(hx_, .inr (3, [.long p_, .long q_, .long r_, .long s_]))] (fun _ : Unit => True) (fun _ : Unit => some (.long (alg a_ b_ q_ s_))) (fun _ : Unit => [(hx_, .inr (3, [.long p_, .long q_, .long r_, .long s_]))]) := by
  refine ct_ofW (cc := b_Axes_alongY) (maxL := 3) (ret := (some .long)) (by decide) rfl (Nat.le_of_ble_eq_true rfl) ?_
  intro p e R s m args below meth c A Q ls hx hb hr hml hts hown hlocks hname hRf hRc hRs hRl hQ hK hP hD hS hA hM hl
  have hl : lv_has ls 3 [(0, .ref hx_), (1, .int a_), (2, .int b_)] := hl
  refine lv_iload_n hx hb d_Axes_alongY_0 rfl (lv_at hl 1 rfl) ?_
  refine lv_i2l (v := a_.toInt64) hx hb d_Axes_alongY_1 rfl ?_
  refine lv_aload_n hx hb d_Axes_alongY_2 rfl (lv_at hl 0 rfl) ?_
  refine va_get (D := D) (ci := 3) (v := .long q_) (C := R_Axes) (T := T_Axes) (N := 4) hx hb hts (ui_Axes _) hown hK hP 0 rfl rfl 1 (by decide) (hts _ (gwc gw_51)) (fun _ h9 => h9) rfl d_Axes_alongY_3 ?_
  refine lv_lmul hx hb d_Axes_alongY_6 ?_
  refine lv_iload_n hx hb d_Axes_alongY_7 rfl (lv_at hl 2 rfl) ?_
  refine lv_i2l (v := b_.toInt64) hx hb d_Axes_alongY_8 rfl ?_
  refine lv_aload_n hx hb d_Axes_alongY_9 rfl (lv_at hl 0 rfl) ?_
  refine va_get (D := D) (ci := 3) (v := .long s_) (C := R_Axes) (T := T_Axes) (N := 4) hx hb hts (ui_Axes _) hown hK hP 0 rfl rfl 3 (by decide) (hts _ (gwc gw_53)) (fun _ h9 => h9) rfl d_Axes_alongY_10 ?_
  refine lv_lmul hx hb d_Axes_alongY_13 ?_
  refine lv_ladd hx hb d_Axes_alongY_14 ?_
  refine lv_ldc2 (v := 32768) hx hb hown (hts _ (gwc gw_326)) d_Axes_alongY_15 ?_
  refine lv_ladd hx hb d_Axes_alongY_18 ?_
  refine lv_bipush (v := 16) hx hb d_Axes_alongY_19 (by decide) ?_
  refine lv_lshr (v := (((a_.toInt64 * q_) + (b_.toInt64 * s_)) + 32768) >>> ((16 : Int32).toInt64 &&& 63)) hx hb d_Axes_alongY_21 rfl ?_
  exact ct_retl hQ hx hb hr hlocks hP hD hS () [(hx_, .inr (3, [.long p_, .long q_, .long r_, .long s_]))] [0] (rfl) (trivial) (rfl) rfl rfl (by omega) (by omega) d_Axes_alongY_22
