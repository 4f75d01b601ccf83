set_option maxHeartbeats 4000000 in
set_option maxRecDepth 100000 in
/-- Math.abs -/
theorem c_abs (l : Launch) (D : va_G) (cI cB cJ : ClassId) (qQ : Nat) (x : Int64)  : ct l D cl [(cI, .int), (cB, .byte), (cJ, .long)] (amb qQ) y_Math_abs w_Math_abs 0 0 (0) (0) [.long x] [] (fun _ : Unit => True) (fun _ : Unit => some (.long (if 0 ≤ x then x else -x))) (fun _ : Unit => []) := by
  refine ct_ofWF (cc := b_Math_abs) (maxL := 2) (ret := (some .long)) (by decide +kernel) rfl (Nat.le_of_ble_eq_true rfl) ?_
  intro p e R s m args below meth c A Q ls hx hb hr hml hts hown hlocks hname hRf hRc hRs hRl hQ hK hP hD hS hA hM hl
  have hl : lv_has ls 2 [(0, .long x)] := hl
  refine lv_lload_n hx hb d_Math_abs_0 rfl (lv_at hl 0 rfl) ?_
  refine lv_lconst (v := 0) hx hb d_Math_abs_1 (by decide) ?_
  refine W.lcmp hx hb d_Math_abs_2 ?_
  refine lc_ge (tgt := 11) hx hb d_Math_abs_3 (by decide) (fun c_1 => ?_) (fun c_1 => ?_)
  · skip
    refine lv_lload_n hx hb d_Math_abs_11 rfl (lv_at hl 0 rfl) ?_
    exact ct_retl hQ hx hb hr hlocks hP hD hS () [] [] (by simp [c_1]) (trivial) (rfl) rfl rfl (by omega) (by omega) d_Math_abs_12
  · skip
    refine lv_lload_n hx hb d_Math_abs_6 rfl (lv_at hl 0 rfl) ?_
    refine lv_lneg hx hb d_Math_abs_7 ?_
    refine lv_goto (tgt := 12) hx hb d_Math_abs_8 (by decide) ?_
    exact ct_retl hQ hx hb hr hlocks hP hD hS () [] [] (by simp [c_1]) (trivial) (rfl) rfl rfl (by omega) (by omega) d_Math_abs_12
set_option maxHeartbeats 4000000 in
set_option maxRecDepth 100000 in
/-- Math.floorDiv -/
theorem c_floorDiv (l : Launch) (D : va_G) (cI cB cJ : ClassId) (qQ : Nat) (x : Int64) (y : Int64) (hy : ¬ y = 0) : ct l D cl [(cI, .int), (cB, .byte), (cJ, .long)] (amb qQ) y_Math_floorDiv w_Math_floorDiv 0 0 (0) (0) [.long x, .long y] [] (fun _ : Unit => True) (fun _ : Unit => some (.long (fdv x y))) (fun _ : Unit => []) := by
  refine ct_ofWF (cc := b_Math_floorDiv) (maxL := 6) (ret := (some .long)) (by decide +kernel) rfl (Nat.le_of_ble_eq_true rfl) ?_
  intro p e R s m args below meth c A Q ls hx hb hr hml hts hown hlocks hname hRf hRc hRs hRl hQ hK hP hD hS hA hM hl
  have hl : lv_has ls 6 [(0, .long x), (2, .long y)] := hl
  refine lv_lload_n hx hb d_Math_floorDiv_0 rfl (lv_at hl 0 rfl) ?_
  refine lv_lload_n hx hb d_Math_floorDiv_1 rfl (lv_at hl 1 rfl) ?_
  refine lv_ldiv hx hb d_Math_floorDiv_2 (hy) ?_
  refine lv_lstore (lv' := [(4, .long (x / y)), (0, .long x), (2, .long y)]) hx hb d_Math_floorDiv_3 hl (by decide) rfl (fun ls hl => ?_)
  refine lv_lload_n hx hb d_Math_floorDiv_5 rfl (lv_at hl 1 rfl) ?_
  refine lv_lload_n hx hb d_Math_floorDiv_6 rfl (lv_at hl 2 rfl) ?_
  refine lv_lxor hx hb d_Math_floorDiv_7 ?_
  refine lv_lconst (v := 0) hx hb d_Math_floorDiv_8 (by decide) ?_
  refine W.lcmp hx hb d_Math_floorDiv_9 ?_
  refine lc_ge (tgt := 27) hx hb d_Math_floorDiv_10 (by decide) (fun c_1 => ?_) (fun c_1 => ?_)
  · skip
    refine lv_lload hx hb d_Math_floorDiv_27 (lv_at hl 0 rfl) ?_
    exact ct_retl hQ hx hb hr hlocks hP hD hS () [] [] (by simp [fdv, c_1]) (trivial) (rfl) rfl rfl (by omega) (by omega) d_Math_floorDiv_29
  · skip
    refine lv_lload hx hb d_Math_floorDiv_13 (lv_at hl 0 rfl) ?_
    refine lv_lload_n hx hb d_Math_floorDiv_15 rfl (lv_at hl 2 rfl) ?_
    refine lv_lmul hx hb d_Math_floorDiv_16 ?_
    refine lv_lload_n hx hb d_Math_floorDiv_17 rfl (lv_at hl 1 rfl) ?_
    refine W.lcmp hx hb d_Math_floorDiv_18 ?_
    refine lc_eq (tgt := 27) hx hb d_Math_floorDiv_19 (by decide) (fun c_2 => ?_) (fun c_2 => ?_)
    · skip
      refine lv_lload hx hb d_Math_floorDiv_27 (lv_at hl 0 rfl) ?_
      exact ct_retl hQ hx hb hr hlocks hP hD hS () [] [] (by simp [fdv, c_1, c_2]) (trivial) (rfl) rfl rfl (by omega) (by omega) d_Math_floorDiv_29
    · skip
      refine lv_lload hx hb d_Math_floorDiv_22 (lv_at hl 0 rfl) ?_
      refine lv_lconst (v := 1) hx hb d_Math_floorDiv_24 (by decide) ?_
      refine lv_lsub hx hb d_Math_floorDiv_25 ?_
      exact ct_retl hQ hx hb hr hlocks hP hD hS () [] [] (by simp [fdv, c_1, c_2]) (trivial) (rfl) rfl rfl (by omega) (by omega) d_Math_floorDiv_26
set_option maxHeartbeats 4000000 in
set_option maxRecDepth 100000 in
/-- Math.floorMod -/
theorem c_floorMod (l : Launch) (D : va_G) (cI cB cJ : ClassId) (qQ : Nat) (x : Int64) (y : Int64) (hy : ¬ y = 0) : ct l D cl [(cI, .int), (cB, .byte), (cJ, .long)] (amb qQ) y_Math_floorMod w_Math_floorMod 0 0 (0) (0) [.long x, .long y] [] (fun _ : Unit => True) (fun _ : Unit => some (.long (fmd x y))) (fun _ : Unit => []) := by
  refine ct_ofWF (cc := b_Math_floorMod) (maxL := 6) (ret := (some .long)) (by decide +kernel) rfl (Nat.le_of_ble_eq_true rfl) ?_
  intro p e R s m args below meth c A Q ls hx hb hr hml hts hown hlocks hname hRf hRc hRs hRl hQ hK hP hD hS hA hM hl
  have hl : lv_has ls 6 [(0, .long x), (2, .long y)] := hl
  refine lv_lload_n hx hb d_Math_floorMod_0 rfl (lv_at hl 0 rfl) ?_
  refine lv_lload_n hx hb d_Math_floorMod_1 rfl (lv_at hl 1 rfl) ?_
  refine lv_lrem hx hb d_Math_floorMod_2 (hy) ?_
  refine lv_lstore (lv' := [(4, .long (x - x / y * y)), (0, .long x), (2, .long y)]) hx hb d_Math_floorMod_3 hl (by decide) rfl (fun ls hl => ?_)
  refine lv_lload_n hx hb d_Math_floorMod_5 rfl (lv_at hl 1 rfl) ?_
  refine lv_lload_n hx hb d_Math_floorMod_6 rfl (lv_at hl 2 rfl) ?_
  refine lv_lxor hx hb d_Math_floorMod_7 ?_
  refine lv_lconst (v := 0) hx hb d_Math_floorMod_8 (by decide) ?_
  refine W.lcmp hx hb d_Math_floorMod_9 ?_
  refine lc_ge (tgt := 25) hx hb d_Math_floorMod_10 (by decide) (fun c_1 => ?_) (fun c_1 => ?_)
  · skip
    refine lv_lload hx hb d_Math_floorMod_25 (lv_at hl 0 rfl) ?_
    exact ct_retl hQ hx hb hr hlocks hP hD hS () [] [] (by simp [fmd, c_1]) (trivial) (rfl) rfl rfl (by omega) (by omega) d_Math_floorMod_27
  · skip
    refine lv_lload hx hb d_Math_floorMod_13 (lv_at hl 0 rfl) ?_
    refine lv_lconst (v := 0) hx hb d_Math_floorMod_15 (by decide) ?_
    refine W.lcmp hx hb d_Math_floorMod_16 ?_
    refine lc_eq (tgt := 25) hx hb d_Math_floorMod_17 (by decide) (fun c_2 => ?_) (fun c_2 => ?_)
    · skip
      refine lv_lload hx hb d_Math_floorMod_25 (lv_at hl 0 rfl) ?_
      exact ct_retl hQ hx hb hr hlocks hP hD hS () [] [] (by simp [fmd, c_1, c_2]) (trivial) (rfl) rfl rfl (by omega) (by omega) d_Math_floorMod_27
    · skip
      refine lv_lload hx hb d_Math_floorMod_20 (lv_at hl 0 rfl) ?_
      refine lv_lload_n hx hb d_Math_floorMod_22 rfl (lv_at hl 2 rfl) ?_
      refine lv_ladd hx hb d_Math_floorMod_23 ?_
      exact ct_retl hQ hx hb hr hlocks hP hD hS () [] [] (by simp [fmd, c_1, c_2]) (trivial) (rfl) rfl rfl (by omega) (by omega) d_Math_floorMod_24
set_option maxHeartbeats 4000000 in
set_option maxRecDepth 100000 in
/-- placeOf -/
theorem c_M_placeOf (l : Launch) (D : va_G) (cI cB cJ : ClassId) (qQ : Nat) (t : Int64)  : ct l D cl [(cI, .int), (cB, .byte), (cJ, .long)] (amb qQ) y_M_placeOf w_M_placeOf 1 25 (0) (0) [.long t] [] (fun _ : Unit => True) (fun _ : Unit => some (.long (plc t))) (fun _ : Unit => []) := by
  refine ct_ofW (cc := b_M_placeOf) (maxL := 2) (ret := (some .long)) (by decide) rfl (Nat.le_of_ble_eq_true rfl) ?_
  intro p e R s m args below meth c A Q ls hx hb hr hml hts hown hlocks hname hRf hRc hRs hRl hQ hK hP hD hS hA hM hl
  have hl : lv_has ls 2 [(0, .long t)] := hl
  refine lv_lload_n hx hb d_M_placeOf_0 rfl (lv_at hl 0 rfl) ?_
  refine lv_ldc2 (v := 5898240) hx hb hown (hts _ (gwc gw_622)) d_M_placeOf_1 ?_
  refine ct_callS (av := [.long t, .long 5898240]) (rest := []) (wr := []) (n := 2) (c_floorMod l D cI cB cJ qQ  t 5898240 (by decide)) hx hb hml hown hts (amb_ok qQ) hK hP hD hS hA hM (gi_S gw_629 gw_250 gw_35 gw_251) rfl (by decide +kernel) ⟨by omega, by omega⟩ [] [] rfl rfl rfl rfl (by decide) rfl hl.1 rfl (Nat.le_of_ble_eq_true rfl) d_M_placeOf_4 ⟨by omega, by omega⟩ (fun u_1 H locs hok hP hD hS => ?_)
  have hP : va_P D cl [] H := hP
  have hD : va_D A [] := hD
  refine W.eq (g2 := F0 m 7 ls [.long (fmd t 5898240)]) rfl ?_
  refine lv_ldc2 (v := 45) hx hb hown (hts _ (gwc gw_630)) d_M_placeOf_7 ?_
  refine lv_ladd hx hb d_M_placeOf_10 ?_
  refine lv_ldc2 (v := 90) hx hb hown (hts _ (gwc gw_631)) d_M_placeOf_11 ?_
  refine ct_callS (av := [.long ((fmd t 5898240) + 45), .long 90]) (rest := []) (wr := []) (n := 2) (c_floorDiv l D cI cB cJ qQ  ((fmd t 5898240) + 45) 90 (by decide)) hx hb hml hown hts (amb_ok qQ) hK hP hD hS hA hM (gi_S gw_616 gw_265 gw_35 gw_266) rfl (by decide +kernel) ⟨by omega, by omega⟩ [] [] rfl rfl rfl rfl (by decide) rfl hl.1 rfl (Nat.le_of_ble_eq_true rfl) d_M_placeOf_14 ⟨by omega, by omega⟩ (fun u_2 H locs hok hP hD hS => ?_)
  have hP : va_P D cl [] H := hP
  have hD : va_D A [] := hD
  refine W.eq (g2 := F0 m 17 ls [.long (fdv ((fmd t 5898240) + 45) 90)]) rfl ?_
  exact ct_retl hQ hx hb hr hlocks hP hD hS () [] [] (rfl) (trivial) (rfl) rfl rfl (by omega) (by omega) d_M_placeOf_17
set_option maxHeartbeats 4000000 in
set_option maxRecDepth 100000 in
/-- mix -/
theorem c_M_mix (l : Launch) (D : va_G) (cI cB cJ : ClassId) (qQ : Nat) (a_ : Int64) (b_ : Int64) (t : Int64)  : ct l D cl [(cI, .int), (cB, .byte), (cJ, .long)] (amb qQ) y_M_mix w_M_mix 1 25 (0) (0) [.long a_, .long b_, .long t] [] (fun _ : Unit => True) (fun _ : Unit => some (.long (mixL a_ b_ t))) (fun _ : Unit => []) := by
  refine ct_ofW (cc := b_M_mix) (maxL := 6) (ret := (some .long)) (by decide) rfl (Nat.le_of_ble_eq_true rfl) ?_
  intro p e R s m args below meth c A Q ls hx hb hr hml hts hown hlocks hname hRf hRc hRs hRl hQ hK hP hD hS hA hM hl
  have hl : lv_has ls 6 [(0, .long a_), (2, .long b_), (4, .long t)] := hl
  refine lv_lload_n hx hb d_M_mix_0 rfl (lv_at hl 0 rfl) ?_
  refine lv_lload_n hx hb d_M_mix_1 rfl (lv_at hl 1 rfl) ?_
  refine lv_lload_n hx hb d_M_mix_2 rfl (lv_at hl 0 rfl) ?_
  refine lv_lsub hx hb d_M_mix_3 ?_
  refine lv_lload hx hb d_M_mix_4 (lv_at hl 2 rfl) ?_
  refine lv_lmul hx hb d_M_mix_6 ?_
  refine lv_ldc2 (v := 32768) hx hb hown (hts _ (gwc gw_653)) d_M_mix_7 ?_
  refine lv_ladd hx hb d_M_mix_10 ?_
  refine lv_ldc2 (v := 65536) hx hb hown (hts _ (gwc gw_635)) d_M_mix_11 ?_
  refine ct_callS (av := [.long (((b_ - a_) * t) + 32768), .long 65536]) (rest := [.long a_]) (wr := []) (n := 2) (c_floorDiv l D cI cB cJ qQ  (((b_ - a_) * t) + 32768) 65536 (by decide)) hx hb hml hown hts (amb_ok qQ) hK hP hD hS hA hM (gi_S gw_616 gw_265 gw_35 gw_266) rfl (by decide +kernel) ⟨by omega, by omega⟩ [] [] rfl rfl rfl rfl (by decide) rfl hl.1 rfl (Nat.le_of_ble_eq_true rfl) d_M_mix_14 ⟨by omega, by omega⟩ (fun u_1 H locs hok hP hD hS => ?_)
  have hP : va_P D cl [] H := hP
  have hD : va_D A [] := hD
  refine W.eq (g2 := F0 m 17 ls [.long (fdv (((b_ - a_) * t) + 32768) 65536), .long a_]) rfl ?_
  refine lv_ladd hx hb d_M_mix_17 ?_
  exact ct_retl hQ hx hb hr hlocks hP hD hS () [] [] (rfl) (trivial) (rfl) rfl rfl (by omega) (by omega) d_M_mix_18
set_option maxHeartbeats 4000000 in
set_option maxRecDepth 100000 in
/-- from -/
theorem c_M_from (l : Launch) (D : va_G) (cI cB cJ : ClassId) (qQ : Nat) (k : Int64) (z : Int64)  : ct l D cl [(cI, .int), (cB, .byte), (cJ, .long)] (amb qQ) y_M_from w_M_from 2 46 (0) (0) [.long k, .long z] [] (fun _ : Unit => True) (fun _ : Unit => some (.long (frm k z))) (fun _ : Unit => []) := by
  refine ct_ofW (cc := b_M_from) (maxL := 4) (ret := (some .long)) (by decide) rfl (Nat.le_of_ble_eq_true rfl) ?_
  intro p e R s m args below meth c A Q ls hx hb hr hml hts hown hlocks hname hRf hRc hRs hRl hQ hK hP hD hS hA hM hl
  have hl : lv_has ls 4 [(0, .long k), (2, .long z)] := hl
  refine lv_lload_n hx hb d_M_from_0 rfl (lv_at hl 0 rfl) ?_
  refine lv_lload_n hx hb d_M_from_1 rfl (lv_at hl 1 rfl) ?_
  refine lv_ldc2 (v := 5898240) hx hb hown (hts _ (gwc gw_622)) d_M_from_2 ?_
  refine ct_callS (av := [.long z, .long 5898240]) (rest := [.long k]) (wr := []) (n := 2) (c_floorDiv l D cI cB cJ qQ  z 5898240 (by decide)) hx hb hml hown hts (amb_ok qQ) hK hP hD hS hA hM (gi_S gw_616 gw_265 gw_35 gw_266) rfl (by decide +kernel) ⟨by omega, by omega⟩ [] [] rfl rfl rfl rfl (by decide) rfl hl.1 rfl (Nat.le_of_ble_eq_true rfl) d_M_from_5 ⟨by omega, by omega⟩ (fun u_1 H locs hok hP hD hS => ?_)
  have hP : va_P D cl [] H := hP
  have hD : va_D A [] := hD
  refine W.eq (g2 := F0 m 8 ls [.long (fdv z 5898240), .long k]) rfl ?_
  refine W.lcmp hx hb d_M_from_8 ?_
  refine lc_ne (tgt := 19) hx hb d_M_from_9 (by decide) (fun c_2 => ?_) (fun c_2 => ?_)
  · skip
    refine lv_lconst (v := 0) hx hb d_M_from_19 (by decide) ?_
    exact ct_retl hQ hx hb hr hlocks hP hD hS () [] [] (by simp [frm, c_2]) (trivial) (rfl) rfl rfl (by omega) (by omega) d_M_from_20
  · skip
    refine lv_lload_n hx hb d_M_from_12 rfl (lv_at hl 1 rfl) ?_
    refine ct_callS (av := [.long z]) (rest := []) (wr := []) (n := 1) (c_M_placeOf l D cI cB cJ qQ  z ) hx hb hml hown hts (amb_ok qQ) hK hP hD hS hA hM (gi_S gw_626 gw_627 gw_33 gw_628) rfl (by decide +kernel) ⟨by omega, by omega⟩ [] [] rfl rfl rfl rfl (by decide) rfl hl.1 rfl (Nat.le_of_ble_eq_true rfl) d_M_from_13 ⟨by omega, by omega⟩ (fun u_3 H locs hok hP hD hS => ?_)
    have hP : va_P D cl [] H := hP
    have hD : va_D A [] := hD
    refine W.eq (g2 := F0 m 16 ls [.long (plc z)]) rfl ?_
    refine lv_goto (tgt := 20) hx hb d_M_from_16 (by decide) ?_
    exact ct_retl hQ hx hb hr hlocks hP hD hS () [] [] (by simp [frm, c_2]) (trivial) (rfl) rfl rfl (by omega) (by omega) d_M_from_20
set_option maxHeartbeats 4000000 in
set_option maxRecDepth 100000 in
/-- to -/
theorem c_M_to (l : Launch) (D : va_G) (cI cB cJ : ClassId) (qQ : Nat) (k : Int64) (z : Int64)  : ct l D cl [(cI, .int), (cB, .byte), (cJ, .long)] (amb qQ) y_M_to w_M_to 2 46 (0) (0) [.long k, .long z] [] (fun _ : Unit => True) (fun _ : Unit => some (.long (tow k z))) (fun _ : Unit => []) := by
  refine ct_ofW (cc := b_M_to) (maxL := 4) (ret := (some .long)) (by decide) rfl (Nat.le_of_ble_eq_true rfl) ?_
  intro p e R s m args below meth c A Q ls hx hb hr hml hts hown hlocks hname hRf hRc hRs hRl hQ hK hP hD hS hA hM hl
  have hl : lv_has ls 4 [(0, .long k), (2, .long z)] := hl
  refine lv_lload_n hx hb d_M_to_0 rfl (lv_at hl 0 rfl) ?_
  refine lv_lload_n hx hb d_M_to_1 rfl (lv_at hl 1 rfl) ?_
  refine lv_ldc2 (v := 5898240) hx hb hown (hts _ (gwc gw_622)) d_M_to_2 ?_
  refine ct_callS (av := [.long z, .long 5898240]) (rest := [.long k]) (wr := []) (n := 2) (c_floorDiv l D cI cB cJ qQ  z 5898240 (by decide)) hx hb hml hown hts (amb_ok qQ) hK hP hD hS hA hM (gi_S gw_616 gw_265 gw_35 gw_266) rfl (by decide +kernel) ⟨by omega, by omega⟩ [] [] rfl rfl rfl rfl (by decide) rfl hl.1 rfl (Nat.le_of_ble_eq_true rfl) d_M_to_5 ⟨by omega, by omega⟩ (fun u_1 H locs hok hP hD hS => ?_)
  have hP : va_P D cl [] H := hP
  have hD : va_D A [] := hD
  refine W.eq (g2 := F0 m 8 ls [.long (fdv z 5898240), .long k]) rfl ?_
  refine W.lcmp hx hb d_M_to_8 ?_
  refine lc_ne (tgt := 19) hx hb d_M_to_9 (by decide) (fun c_2 => ?_) (fun c_2 => ?_)
  · skip
    refine lv_ldc2 (v := 65536) hx hb hown (hts _ (gwc gw_635)) d_M_to_19 ?_
    exact ct_retl hQ hx hb hr hlocks hP hD hS () [] [] (by simp [tow, c_2]) (trivial) (rfl) rfl rfl (by omega) (by omega) d_M_to_22
  · skip
    refine lv_lload_n hx hb d_M_to_12 rfl (lv_at hl 1 rfl) ?_
    refine ct_callS (av := [.long z]) (rest := []) (wr := []) (n := 1) (c_M_placeOf l D cI cB cJ qQ  z ) hx hb hml hown hts (amb_ok qQ) hK hP hD hS hA hM (gi_S gw_626 gw_627 gw_33 gw_628) rfl (by decide +kernel) ⟨by omega, by omega⟩ [] [] rfl rfl rfl rfl (by decide) rfl hl.1 rfl (Nat.le_of_ble_eq_true rfl) d_M_to_13 ⟨by omega, by omega⟩ (fun u_3 H locs hok hP hD hS => ?_)
    have hP : va_P D cl [] H := hP
    have hD : va_D A [] := hD
    refine W.eq (g2 := F0 m 16 ls [.long (plc z)]) rfl ?_
    refine lv_goto (tgt := 22) hx hb d_M_to_16 (by decide) ?_
    exact ct_retl hQ hx hb hr hlocks hP hD hS () [] [] (by simp [tow, c_2]) (trivial) (rfl) rfl rfl (by omega) (by omega) d_M_to_22
set_option maxHeartbeats 4000000 in
set_option maxRecDepth 100000 in
/-- quarter -/
theorem c_M_quarter (l : Launch) (D : va_G) (cI cB cJ : ClassId) (qQ : Nat) (hm : Nat) (a : Nat) (b : Nat) (qa : Nat) (qu : Nat) (qb : Nat) (qh : Nat) (qm : Nat) (u0 : Int64) (u1 : Int64) (u2 : Int64) (u3 : Int64) (u4 : Int64) (u5 : Int64) (u6 : Int64) (u7 : Int64) (k : Int64)  : ct l D cl [(cI, .int), (cB, .byte), (cJ, .long)] (amb qQ) y_M_quarter w_M_quarter 1 25 (0) (0) [.ref hm, .long k] [(hm, .inr (1, [.ref a, .ref b, .ref qa, .ref qu, .ref qb, .ref qh, .ref qm])), (qu, .inl (cJ, 8, .inr (.inl (f8 u0 u1 u2 u3 u4 u5 u6 u7))))] (fun u_ : Int64 × Int64 × Int64 × Int64 × Int64 × Int64 × Int64 × Int64 => match u_ with | (u0', u1', u2', u3', u4', u5', u6', u7') => (u0', u1', u2', u3', u4', u5', u6', u7') = qv8 (fmd k 4)) (fun u_ : Int64 × Int64 × Int64 × Int64 × Int64 × Int64 × Int64 × Int64 => match u_ with | (u0', u1', u2', u3', u4', u5', u6', u7') => none) (fun u_ : Int64 × Int64 × Int64 × Int64 × Int64 × Int64 × Int64 × Int64 => match u_ with | (u0', u1', u2', u3', u4', u5', u6', u7') => [(hm, .inr (1, [.ref a, .ref b, .ref qa, .ref qu, .ref qb, .ref qh, .ref qm])), (qu, .inl (cJ, 8, .inr (.inl (f8 u0' u1' u2' u3' u4' u5' u6' u7'))))]) := by
  refine ct_ofW (cc := b_M_quarter) (maxL := 7) (ret := none) (by decide) rfl (Nat.le_of_ble_eq_true rfl) ?_
  intro p e R s m args below meth c A Q ls hx hb hr hml hts hown hlocks hname hRf hRc hRs hRl hQ hK hP hD hS hA hM hl
  have hl : lv_has ls 7 [(0, .ref hm), (1, .long k)] := hl
  rcases fmd4 k with h_ | h_ | h_ | h_
  · skip
    refine lv_aload_n hx hb d_M_quarter_0 rfl (lv_at hl 0 rfl) ?_
    refine va_get (D := D) (ci := 1) (v := .ref qu) (C := R_M) (T := T_M) (N := 7) hx hb hts (ui_M _) hown hK hP 0 rfl rfl 3 (by decide) (hts _ (gwc gw_512)) (fun _ h9 => h9) rfl d_M_quarter_1 ?_
    refine lv_iconst (v := 0) hx hb d_M_quarter_4 (by decide) ?_
    refine lv_ldc2 (v := 65536) hx hb hown (hts _ (gwc gw_635)) d_M_quarter_5 ?_
    refine sf_l (f8 65536 u1 u2 u3 u4 u5 u6 u7) hx hb hK hP hD hS 1 2 rfl rfl 0 f8_0 (by decide) (by decide) d_M_quarter_8 (fun H locs hP hD hS => ?_)
    have hP : va_P D cl [(hm, .inr (1, [.ref a, .ref b, .ref qa, .ref qu, .ref qb, .ref qh, .ref qm])), (qu, .inl (cJ, 8, .inr (.inl (f8 65536 u1 u2 u3 u4 u5 u6 u7))))] H := hP
    have hD : va_D A [(hm, .inr (1, [.ref a, .ref b, .ref qa, .ref qu, .ref qb, .ref qh, .ref qm])), (qu, .inl (cJ, 8, .inr (.inl (f8 65536 u1 u2 u3 u4 u5 u6 u7))))] := hD
    refine lv_aload_n hx hb d_M_quarter_9 rfl (lv_at hl 0 rfl) ?_
    refine va_get (D := D) (ci := 1) (v := .ref qu) (C := R_M) (T := T_M) (N := 7) hx hb hts (ui_M _) hown hK hP 0 rfl rfl 3 (by decide) (hts _ (gwc gw_512)) (fun _ h9 => h9) rfl d_M_quarter_10 ?_
    refine lv_iconst (v := 1) hx hb d_M_quarter_13 (by decide) ?_
    refine lv_lconst (v := 0) hx hb d_M_quarter_14 (by decide) ?_
    refine sf_l (f8 65536 0 u2 u3 u4 u5 u6 u7) hx hb hK hP hD hS 1 2 rfl rfl 1 f8_1 (by decide) (by decide) d_M_quarter_15 (fun H locs hP hD hS => ?_)
    have hP : va_P D cl [(hm, .inr (1, [.ref a, .ref b, .ref qa, .ref qu, .ref qb, .ref qh, .ref qm])), (qu, .inl (cJ, 8, .inr (.inl (f8 65536 0 u2 u3 u4 u5 u6 u7))))] H := hP
    have hD : va_D A [(hm, .inr (1, [.ref a, .ref b, .ref qa, .ref qu, .ref qb, .ref qh, .ref qm])), (qu, .inl (cJ, 8, .inr (.inl (f8 65536 0 u2 u3 u4 u5 u6 u7))))] := hD
    refine lv_aload_n hx hb d_M_quarter_16 rfl (lv_at hl 0 rfl) ?_
    refine va_get (D := D) (ci := 1) (v := .ref qu) (C := R_M) (T := T_M) (N := 7) hx hb hts (ui_M _) hown hK hP 0 rfl rfl 3 (by decide) (hts _ (gwc gw_512)) (fun _ h9 => h9) rfl d_M_quarter_17 ?_
    refine lv_iconst (v := 2) hx hb d_M_quarter_20 (by decide) ?_
    refine lv_ldc2 (v := 65536) hx hb hown (hts _ (gwc gw_635)) d_M_quarter_21 ?_
    refine sf_l (f8 65536 0 65536 u3 u4 u5 u6 u7) hx hb hK hP hD hS 1 2 rfl rfl 2 f8_2 (by decide) (by decide) d_M_quarter_24 (fun H locs hP hD hS => ?_)
    have hP : va_P D cl [(hm, .inr (1, [.ref a, .ref b, .ref qa, .ref qu, .ref qb, .ref qh, .ref qm])), (qu, .inl (cJ, 8, .inr (.inl (f8 65536 0 65536 u3 u4 u5 u6 u7))))] H := hP
    have hD : va_D A [(hm, .inr (1, [.ref a, .ref b, .ref qa, .ref qu, .ref qb, .ref qh, .ref qm])), (qu, .inl (cJ, 8, .inr (.inl (f8 65536 0 65536 u3 u4 u5 u6 u7))))] := hD
    refine lv_aload_n hx hb d_M_quarter_25 rfl (lv_at hl 0 rfl) ?_
    refine va_get (D := D) (ci := 1) (v := .ref qu) (C := R_M) (T := T_M) (N := 7) hx hb hts (ui_M _) hown hK hP 0 rfl rfl 3 (by decide) (hts _ (gwc gw_512)) (fun _ h9 => h9) rfl d_M_quarter_26 ?_
    refine lv_iconst (v := 3) hx hb d_M_quarter_29 (by decide) ?_
    refine lv_ldc2 (v := 36195) hx hb hown (hts _ (gwc gw_640)) d_M_quarter_30 ?_
    refine sf_l (f8 65536 0 65536 36195 u4 u5 u6 u7) hx hb hK hP hD hS 1 2 rfl rfl 3 f8_3 (by decide) (by decide) d_M_quarter_33 (fun H locs hP hD hS => ?_)
    have hP : va_P D cl [(hm, .inr (1, [.ref a, .ref b, .ref qa, .ref qu, .ref qb, .ref qh, .ref qm])), (qu, .inl (cJ, 8, .inr (.inl (f8 65536 0 65536 36195 u4 u5 u6 u7))))] H := hP
    have hD : va_D A [(hm, .inr (1, [.ref a, .ref b, .ref qa, .ref qu, .ref qb, .ref qh, .ref qm])), (qu, .inl (cJ, 8, .inr (.inl (f8 65536 0 65536 36195 u4 u5 u6 u7))))] := hD
    refine lv_aload_n hx hb d_M_quarter_34 rfl (lv_at hl 0 rfl) ?_
    refine va_get (D := D) (ci := 1) (v := .ref qu) (C := R_M) (T := T_M) (N := 7) hx hb hts (ui_M _) hown hK hP 0 rfl rfl 3 (by decide) (hts _ (gwc gw_512)) (fun _ h9 => h9) rfl d_M_quarter_35 ?_
    refine lv_iconst (v := 4) hx hb d_M_quarter_38 (by decide) ?_
    refine lv_ldc2 (v := 36195) hx hb hown (hts _ (gwc gw_640)) d_M_quarter_39 ?_
    refine sf_l (f8 65536 0 65536 36195 36195 u5 u6 u7) hx hb hK hP hD hS 1 2 rfl rfl 4 f8_4 (by decide) (by decide) d_M_quarter_42 (fun H locs hP hD hS => ?_)
    have hP : va_P D cl [(hm, .inr (1, [.ref a, .ref b, .ref qa, .ref qu, .ref qb, .ref qh, .ref qm])), (qu, .inl (cJ, 8, .inr (.inl (f8 65536 0 65536 36195 36195 u5 u6 u7))))] H := hP
    have hD : va_D A [(hm, .inr (1, [.ref a, .ref b, .ref qa, .ref qu, .ref qb, .ref qh, .ref qm])), (qu, .inl (cJ, 8, .inr (.inl (f8 65536 0 65536 36195 36195 u5 u6 u7))))] := hD
    refine lv_aload_n hx hb d_M_quarter_43 rfl (lv_at hl 0 rfl) ?_
    refine va_get (D := D) (ci := 1) (v := .ref qu) (C := R_M) (T := T_M) (N := 7) hx hb hts (ui_M _) hown hK hP 0 rfl rfl 3 (by decide) (hts _ (gwc gw_512)) (fun _ h9 => h9) rfl d_M_quarter_44 ?_
    refine lv_iconst (v := 5) hx hb d_M_quarter_47 (by decide) ?_
    refine lv_ldc2 (v := 65536) hx hb hown (hts _ (gwc gw_635)) d_M_quarter_48 ?_
    refine sf_l (f8 65536 0 65536 36195 36195 65536 u6 u7) hx hb hK hP hD hS 1 2 rfl rfl 5 f8_5 (by decide) (by decide) d_M_quarter_51 (fun H locs hP hD hS => ?_)
    have hP : va_P D cl [(hm, .inr (1, [.ref a, .ref b, .ref qa, .ref qu, .ref qb, .ref qh, .ref qm])), (qu, .inl (cJ, 8, .inr (.inl (f8 65536 0 65536 36195 36195 65536 u6 u7))))] H := hP
    have hD : va_D A [(hm, .inr (1, [.ref a, .ref b, .ref qa, .ref qu, .ref qb, .ref qh, .ref qm])), (qu, .inl (cJ, 8, .inr (.inl (f8 65536 0 65536 36195 36195 65536 u6 u7))))] := hD
    refine lv_aload_n hx hb d_M_quarter_52 rfl (lv_at hl 0 rfl) ?_
    refine va_get (D := D) (ci := 1) (v := .ref qu) (C := R_M) (T := T_M) (N := 7) hx hb hts (ui_M _) hown hK hP 0 rfl rfl 3 (by decide) (hts _ (gwc gw_512)) (fun _ h9 => h9) rfl d_M_quarter_53 ?_
    refine lv_bipush (v := 6) hx hb d_M_quarter_56 (by decide) ?_
    refine lv_lconst (v := 0) hx hb d_M_quarter_58 (by decide) ?_
    refine sf_l (f8 65536 0 65536 36195 36195 65536 0 u7) hx hb hK hP hD hS 1 2 rfl rfl 6 f8_6 (by decide) (by decide) d_M_quarter_59 (fun H locs hP hD hS => ?_)
    have hP : va_P D cl [(hm, .inr (1, [.ref a, .ref b, .ref qa, .ref qu, .ref qb, .ref qh, .ref qm])), (qu, .inl (cJ, 8, .inr (.inl (f8 65536 0 65536 36195 36195 65536 0 u7))))] H := hP
    have hD : va_D A [(hm, .inr (1, [.ref a, .ref b, .ref qa, .ref qu, .ref qb, .ref qh, .ref qm])), (qu, .inl (cJ, 8, .inr (.inl (f8 65536 0 65536 36195 36195 65536 0 u7))))] := hD
    refine lv_aload_n hx hb d_M_quarter_60 rfl (lv_at hl 0 rfl) ?_
    refine va_get (D := D) (ci := 1) (v := .ref qu) (C := R_M) (T := T_M) (N := 7) hx hb hts (ui_M _) hown hK hP 0 rfl rfl 3 (by decide) (hts _ (gwc gw_512)) (fun _ h9 => h9) rfl d_M_quarter_61 ?_
    refine lv_bipush (v := 7) hx hb d_M_quarter_64 (by decide) ?_
    refine lv_ldc2 (v := 65536) hx hb hown (hts _ (gwc gw_635)) d_M_quarter_66 ?_
    refine sf_l (f8 65536 0 65536 36195 36195 65536 0 65536) hx hb hK hP hD hS 1 2 rfl rfl 7 f8_7 (by decide) (by decide) d_M_quarter_69 (fun H locs hP hD hS => ?_)
    have hP : va_P D cl [(hm, .inr (1, [.ref a, .ref b, .ref qa, .ref qu, .ref qb, .ref qh, .ref qm])), (qu, .inl (cJ, 8, .inr (.inl (f8 65536 0 65536 36195 36195 65536 0 65536))))] H := hP
    have hD : va_D A [(hm, .inr (1, [.ref a, .ref b, .ref qa, .ref qu, .ref qb, .ref qh, .ref qm])), (qu, .inl (cJ, 8, .inr (.inl (f8 65536 0 65536 36195 36195 65536 0 65536))))] := hD
    refine lv_iconst (v := 0) hx hb d_M_quarter_70 (by decide) ?_
    refine lv_istore_n (lv' := [(3, .int 0), (0, .ref hm), (1, .long k)]) hx hb d_M_quarter_71 rfl hl (by decide) rfl (fun ls hl => ?_)
    refine lv_iload_n hx hb d_M_quarter_72 rfl (lv_at hl 0 rfl) ?_
    refine lv_i2l (v := 0) hx hb d_M_quarter_73 (by decide) ?_
    refine lv_lload_n hx hb d_M_quarter_74 rfl (lv_at hl 2 rfl) ?_
    refine lv_ldc2 (v := 4) hx hb hown (hts _ (gwc gw_641)) d_M_quarter_75 ?_
    refine ct_callS (av := [.long k, .long 4]) (rest := [.long 0]) (wr := [(hm, .inr (1, [.ref a, .ref b, .ref qa, .ref qu, .ref qb, .ref qh, .ref qm])), (qu, .inl (cJ, 8, .inr (.inl (f8 65536 0 65536 36195 36195 65536 0 65536))))]) (n := 2) (c_floorMod l D cI cB cJ qQ  k 4 (by decide)) hx hb hml hown hts (amb_ok qQ) hK hP hD hS hA hM (gi_S gw_629 gw_250 gw_35 gw_251) rfl (by decide +kernel) ⟨by omega, by omega⟩ [] [0, 1] rfl rfl rfl rfl (by decide) rfl hl.1 rfl (Nat.le_of_ble_eq_true rfl) d_M_quarter_78 ⟨by omega, by omega⟩ (fun u_1 H locs hok hP hD hS => ?_)
    have hP : va_P D cl [(hm, .inr (1, [.ref a, .ref b, .ref qa, .ref qu, .ref qb, .ref qh, .ref qm])), (qu, .inl (cJ, 8, .inr (.inl (f8 65536 0 65536 36195 36195 65536 0 65536))))] H := hP
    have hD : va_D A [(hm, .inr (1, [.ref a, .ref b, .ref qa, .ref qu, .ref qb, .ref qh, .ref qm])), (qu, .inl (cJ, 8, .inr (.inl (f8 65536 0 65536 36195 36195 65536 0 65536))))] := hD
    refine W.eq (g2 := F0 m 81 ls [.long (fmd k 4), .long 0]) rfl ?_
    refine tp_l (0) (h_) ?_
    refine W.lcmp hx hb d_M_quarter_81 ?_
    refine lc_ge (tgt := 144) hx hb d_M_quarter_82 (by decide) (fun c_2 => ?_) (fun c_2 => ?_)
    rotate_left
    · exact absurd c_2 (by decide)
    exact ct_retv hQ hx hb hr hlocks hP hD hS (65536, 0, 65536, 36195, 36195, 65536, 0, 65536) [(hm, .inr (1, [.ref a, .ref b, .ref qa, .ref qu, .ref qb, .ref qh, .ref qm])), (qu, .inl (cJ, 8, .inr (.inl (f8 65536 0 65536 36195 36195 65536 0 65536))))] [0, 1] (rfl) (by rw [h_]; first | exact rfl | (dsimp only; decide)) (rfl) rfl rfl (by omega) (by omega) d_M_quarter_144
  · skip
    refine lv_aload_n hx hb d_M_quarter_0 rfl (lv_at hl 0 rfl) ?_
    refine va_get (D := D) (ci := 1) (v := .ref qu) (C := R_M) (T := T_M) (N := 7) hx hb hts (ui_M _) hown hK hP 0 rfl rfl 3 (by decide) (hts _ (gwc gw_512)) (fun _ h9 => h9) rfl d_M_quarter_1 ?_
    refine lv_iconst (v := 0) hx hb d_M_quarter_4 (by decide) ?_
    refine lv_ldc2 (v := 65536) hx hb hown (hts _ (gwc gw_635)) d_M_quarter_5 ?_
    refine sf_l (f8 65536 u1 u2 u3 u4 u5 u6 u7) hx hb hK hP hD hS 1 2 rfl rfl 0 f8_0 (by decide) (by decide) d_M_quarter_8 (fun H locs hP hD hS => ?_)
    have hP : va_P D cl [(hm, .inr (1, [.ref a, .ref b, .ref qa, .ref qu, .ref qb, .ref qh, .ref qm])), (qu, .inl (cJ, 8, .inr (.inl (f8 65536 u1 u2 u3 u4 u5 u6 u7))))] H := hP
    have hD : va_D A [(hm, .inr (1, [.ref a, .ref b, .ref qa, .ref qu, .ref qb, .ref qh, .ref qm])), (qu, .inl (cJ, 8, .inr (.inl (f8 65536 u1 u2 u3 u4 u5 u6 u7))))] := hD
    refine lv_aload_n hx hb d_M_quarter_9 rfl (lv_at hl 0 rfl) ?_
    refine va_get (D := D) (ci := 1) (v := .ref qu) (C := R_M) (T := T_M) (N := 7) hx hb hts (ui_M _) hown hK hP 0 rfl rfl 3 (by decide) (hts _ (gwc gw_512)) (fun _ h9 => h9) rfl d_M_quarter_10 ?_
    refine lv_iconst (v := 1) hx hb d_M_quarter_13 (by decide) ?_
    refine lv_lconst (v := 0) hx hb d_M_quarter_14 (by decide) ?_
    refine sf_l (f8 65536 0 u2 u3 u4 u5 u6 u7) hx hb hK hP hD hS 1 2 rfl rfl 1 f8_1 (by decide) (by decide) d_M_quarter_15 (fun H locs hP hD hS => ?_)
    have hP : va_P D cl [(hm, .inr (1, [.ref a, .ref b, .ref qa, .ref qu, .ref qb, .ref qh, .ref qm])), (qu, .inl (cJ, 8, .inr (.inl (f8 65536 0 u2 u3 u4 u5 u6 u7))))] H := hP
    have hD : va_D A [(hm, .inr (1, [.ref a, .ref b, .ref qa, .ref qu, .ref qb, .ref qh, .ref qm])), (qu, .inl (cJ, 8, .inr (.inl (f8 65536 0 u2 u3 u4 u5 u6 u7))))] := hD
    refine lv_aload_n hx hb d_M_quarter_16 rfl (lv_at hl 0 rfl) ?_
    refine va_get (D := D) (ci := 1) (v := .ref qu) (C := R_M) (T := T_M) (N := 7) hx hb hts (ui_M _) hown hK hP 0 rfl rfl 3 (by decide) (hts _ (gwc gw_512)) (fun _ h9 => h9) rfl d_M_quarter_17 ?_
    refine lv_iconst (v := 2) hx hb d_M_quarter_20 (by decide) ?_
    refine lv_ldc2 (v := 65536) hx hb hown (hts _ (gwc gw_635)) d_M_quarter_21 ?_
    refine sf_l (f8 65536 0 65536 u3 u4 u5 u6 u7) hx hb hK hP hD hS 1 2 rfl rfl 2 f8_2 (by decide) (by decide) d_M_quarter_24 (fun H locs hP hD hS => ?_)
    have hP : va_P D cl [(hm, .inr (1, [.ref a, .ref b, .ref qa, .ref qu, .ref qb, .ref qh, .ref qm])), (qu, .inl (cJ, 8, .inr (.inl (f8 65536 0 65536 u3 u4 u5 u6 u7))))] H := hP
    have hD : va_D A [(hm, .inr (1, [.ref a, .ref b, .ref qa, .ref qu, .ref qb, .ref qh, .ref qm])), (qu, .inl (cJ, 8, .inr (.inl (f8 65536 0 65536 u3 u4 u5 u6 u7))))] := hD
    refine lv_aload_n hx hb d_M_quarter_25 rfl (lv_at hl 0 rfl) ?_
    refine va_get (D := D) (ci := 1) (v := .ref qu) (C := R_M) (T := T_M) (N := 7) hx hb hts (ui_M _) hown hK hP 0 rfl rfl 3 (by decide) (hts _ (gwc gw_512)) (fun _ h9 => h9) rfl d_M_quarter_26 ?_
    refine lv_iconst (v := 3) hx hb d_M_quarter_29 (by decide) ?_
    refine lv_ldc2 (v := 36195) hx hb hown (hts _ (gwc gw_640)) d_M_quarter_30 ?_
    refine sf_l (f8 65536 0 65536 36195 u4 u5 u6 u7) hx hb hK hP hD hS 1 2 rfl rfl 3 f8_3 (by decide) (by decide) d_M_quarter_33 (fun H locs hP hD hS => ?_)
    have hP : va_P D cl [(hm, .inr (1, [.ref a, .ref b, .ref qa, .ref qu, .ref qb, .ref qh, .ref qm])), (qu, .inl (cJ, 8, .inr (.inl (f8 65536 0 65536 36195 u4 u5 u6 u7))))] H := hP
    have hD : va_D A [(hm, .inr (1, [.ref a, .ref b, .ref qa, .ref qu, .ref qb, .ref qh, .ref qm])), (qu, .inl (cJ, 8, .inr (.inl (f8 65536 0 65536 36195 u4 u5 u6 u7))))] := hD
    refine lv_aload_n hx hb d_M_quarter_34 rfl (lv_at hl 0 rfl) ?_
    refine va_get (D := D) (ci := 1) (v := .ref qu) (C := R_M) (T := T_M) (N := 7) hx hb hts (ui_M _) hown hK hP 0 rfl rfl 3 (by decide) (hts _ (gwc gw_512)) (fun _ h9 => h9) rfl d_M_quarter_35 ?_
    refine lv_iconst (v := 4) hx hb d_M_quarter_38 (by decide) ?_
    refine lv_ldc2 (v := 36195) hx hb hown (hts _ (gwc gw_640)) d_M_quarter_39 ?_
    refine sf_l (f8 65536 0 65536 36195 36195 u5 u6 u7) hx hb hK hP hD hS 1 2 rfl rfl 4 f8_4 (by decide) (by decide) d_M_quarter_42 (fun H locs hP hD hS => ?_)
    have hP : va_P D cl [(hm, .inr (1, [.ref a, .ref b, .ref qa, .ref qu, .ref qb, .ref qh, .ref qm])), (qu, .inl (cJ, 8, .inr (.inl (f8 65536 0 65536 36195 36195 u5 u6 u7))))] H := hP
    have hD : va_D A [(hm, .inr (1, [.ref a, .ref b, .ref qa, .ref qu, .ref qb, .ref qh, .ref qm])), (qu, .inl (cJ, 8, .inr (.inl (f8 65536 0 65536 36195 36195 u5 u6 u7))))] := hD
    refine lv_aload_n hx hb d_M_quarter_43 rfl (lv_at hl 0 rfl) ?_
    refine va_get (D := D) (ci := 1) (v := .ref qu) (C := R_M) (T := T_M) (N := 7) hx hb hts (ui_M _) hown hK hP 0 rfl rfl 3 (by decide) (hts _ (gwc gw_512)) (fun _ h9 => h9) rfl d_M_quarter_44 ?_
    refine lv_iconst (v := 5) hx hb d_M_quarter_47 (by decide) ?_
    refine lv_ldc2 (v := 65536) hx hb hown (hts _ (gwc gw_635)) d_M_quarter_48 ?_
    refine sf_l (f8 65536 0 65536 36195 36195 65536 u6 u7) hx hb hK hP hD hS 1 2 rfl rfl 5 f8_5 (by decide) (by decide) d_M_quarter_51 (fun H locs hP hD hS => ?_)
    have hP : va_P D cl [(hm, .inr (1, [.ref a, .ref b, .ref qa, .ref qu, .ref qb, .ref qh, .ref qm])), (qu, .inl (cJ, 8, .inr (.inl (f8 65536 0 65536 36195 36195 65536 u6 u7))))] H := hP
    have hD : va_D A [(hm, .inr (1, [.ref a, .ref b, .ref qa, .ref qu, .ref qb, .ref qh, .ref qm])), (qu, .inl (cJ, 8, .inr (.inl (f8 65536 0 65536 36195 36195 65536 u6 u7))))] := hD
    refine lv_aload_n hx hb d_M_quarter_52 rfl (lv_at hl 0 rfl) ?_
    refine va_get (D := D) (ci := 1) (v := .ref qu) (C := R_M) (T := T_M) (N := 7) hx hb hts (ui_M _) hown hK hP 0 rfl rfl 3 (by decide) (hts _ (gwc gw_512)) (fun _ h9 => h9) rfl d_M_quarter_53 ?_
    refine lv_bipush (v := 6) hx hb d_M_quarter_56 (by decide) ?_
    refine lv_lconst (v := 0) hx hb d_M_quarter_58 (by decide) ?_
    refine sf_l (f8 65536 0 65536 36195 36195 65536 0 u7) hx hb hK hP hD hS 1 2 rfl rfl 6 f8_6 (by decide) (by decide) d_M_quarter_59 (fun H locs hP hD hS => ?_)
    have hP : va_P D cl [(hm, .inr (1, [.ref a, .ref b, .ref qa, .ref qu, .ref qb, .ref qh, .ref qm])), (qu, .inl (cJ, 8, .inr (.inl (f8 65536 0 65536 36195 36195 65536 0 u7))))] H := hP
    have hD : va_D A [(hm, .inr (1, [.ref a, .ref b, .ref qa, .ref qu, .ref qb, .ref qh, .ref qm])), (qu, .inl (cJ, 8, .inr (.inl (f8 65536 0 65536 36195 36195 65536 0 u7))))] := hD
    refine lv_aload_n hx hb d_M_quarter_60 rfl (lv_at hl 0 rfl) ?_
    refine va_get (D := D) (ci := 1) (v := .ref qu) (C := R_M) (T := T_M) (N := 7) hx hb hts (ui_M _) hown hK hP 0 rfl rfl 3 (by decide) (hts _ (gwc gw_512)) (fun _ h9 => h9) rfl d_M_quarter_61 ?_
    refine lv_bipush (v := 7) hx hb d_M_quarter_64 (by decide) ?_
    refine lv_ldc2 (v := 65536) hx hb hown (hts _ (gwc gw_635)) d_M_quarter_66 ?_
    refine sf_l (f8 65536 0 65536 36195 36195 65536 0 65536) hx hb hK hP hD hS 1 2 rfl rfl 7 f8_7 (by decide) (by decide) d_M_quarter_69 (fun H locs hP hD hS => ?_)
    have hP : va_P D cl [(hm, .inr (1, [.ref a, .ref b, .ref qa, .ref qu, .ref qb, .ref qh, .ref qm])), (qu, .inl (cJ, 8, .inr (.inl (f8 65536 0 65536 36195 36195 65536 0 65536))))] H := hP
    have hD : va_D A [(hm, .inr (1, [.ref a, .ref b, .ref qa, .ref qu, .ref qb, .ref qh, .ref qm])), (qu, .inl (cJ, 8, .inr (.inl (f8 65536 0 65536 36195 36195 65536 0 65536))))] := hD
    refine lv_iconst (v := 0) hx hb d_M_quarter_70 (by decide) ?_
    refine lv_istore_n (lv' := [(3, .int 0), (0, .ref hm), (1, .long k)]) hx hb d_M_quarter_71 rfl hl (by decide) rfl (fun ls hl => ?_)
    refine lv_iload_n hx hb d_M_quarter_72 rfl (lv_at hl 0 rfl) ?_
    refine lv_i2l (v := 0) hx hb d_M_quarter_73 (by decide) ?_
    refine lv_lload_n hx hb d_M_quarter_74 rfl (lv_at hl 2 rfl) ?_
    refine lv_ldc2 (v := 4) hx hb hown (hts _ (gwc gw_641)) d_M_quarter_75 ?_
    refine ct_callS (av := [.long k, .long 4]) (rest := [.long 0]) (wr := [(hm, .inr (1, [.ref a, .ref b, .ref qa, .ref qu, .ref qb, .ref qh, .ref qm])), (qu, .inl (cJ, 8, .inr (.inl (f8 65536 0 65536 36195 36195 65536 0 65536))))]) (n := 2) (c_floorMod l D cI cB cJ qQ  k 4 (by decide)) hx hb hml hown hts (amb_ok qQ) hK hP hD hS hA hM (gi_S gw_629 gw_250 gw_35 gw_251) rfl (by decide +kernel) ⟨by omega, by omega⟩ [] [0, 1] rfl rfl rfl rfl (by decide) rfl hl.1 rfl (Nat.le_of_ble_eq_true rfl) d_M_quarter_78 ⟨by omega, by omega⟩ (fun u_3 H locs hok hP hD hS => ?_)
    have hP : va_P D cl [(hm, .inr (1, [.ref a, .ref b, .ref qa, .ref qu, .ref qb, .ref qh, .ref qm])), (qu, .inl (cJ, 8, .inr (.inl (f8 65536 0 65536 36195 36195 65536 0 65536))))] H := hP
    have hD : va_D A [(hm, .inr (1, [.ref a, .ref b, .ref qa, .ref qu, .ref qb, .ref qh, .ref qm])), (qu, .inl (cJ, 8, .inr (.inl (f8 65536 0 65536 36195 36195 65536 0 65536))))] := hD
    refine W.eq (g2 := F0 m 81 ls [.long (fmd k 4), .long 0]) rfl ?_
    refine tp_l (1) (h_) ?_
    refine W.lcmp hx hb d_M_quarter_81 ?_
    refine lc_ge (tgt := 144) hx hb d_M_quarter_82 (by decide) (fun c_4 => ?_) (fun c_4 => ?_)
    · exact absurd c_4 (by decide)
    refine lv_iconst (v := 0) hx hb d_M_quarter_85 (by decide) ?_
    refine lv_istore (lv' := [(4, .int 0), (3, .int 0), (0, .ref hm), (1, .long k)]) hx hb d_M_quarter_86 hl (by decide) rfl (fun ls hl => ?_)
    refine lv_iload hx hb d_M_quarter_88 (lv_at hl 0 rfl) ?_
    refine lv_bipush (v := 8) hx hb d_M_quarter_90 (by decide) ?_
    refine bn_ge (a1 := 0) (b1 := 8) (tgt := 138) hx hb (by omega) (by omega) d_M_quarter_92 (by decide) (fun c_5 => ?_) (fun c_5 => ?_)
    · exact absurd c_5 (by decide)
    refine lv_aload_n hx hb d_M_quarter_95 rfl (lv_at hl 2 rfl) ?_
    refine va_get (D := D) (ci := 1) (v := .ref qu) (C := R_M) (T := T_M) (N := 7) hx hb hts (ui_M _) hown hK hP 0 rfl rfl 3 (by decide) (hts _ (gwc gw_512)) (fun _ h9 => h9) rfl d_M_quarter_96 ?_
    refine lv_iload hx hb d_M_quarter_99 (lv_at hl 0 rfl) ?_
    refine ld_l hx hb hK hP 1 2 rfl rfl 0 (by omega) (by omega) d_M_quarter_101 ?_
    refine tp_l (65536) (rfl) ?_
    refine lv_lstore (lv' := [(5, .long 65536), (4, .int 0), (3, .int 0), (0, .ref hm), (1, .long k)]) hx hb d_M_quarter_102 hl (by decide) rfl (fun ls hl => ?_)
    refine lv_aload_n hx hb d_M_quarter_104 rfl (lv_at hl 3 rfl) ?_
    refine va_get (D := D) (ci := 1) (v := .ref qu) (C := R_M) (T := T_M) (N := 7) hx hb hts (ui_M _) hown hK hP 0 rfl rfl 3 (by decide) (hts _ (gwc gw_512)) (fun _ h9 => h9) rfl d_M_quarter_105 ?_
    refine lv_iload hx hb d_M_quarter_108 (lv_at hl 1 rfl) ?_
    refine lv_aload_n hx hb d_M_quarter_110 rfl (lv_at hl 3 rfl) ?_
    refine va_get (D := D) (ci := 1) (v := .ref qu) (C := R_M) (T := T_M) (N := 7) hx hb hts (ui_M _) hown hK hP 0 rfl rfl 3 (by decide) (hts _ (gwc gw_512)) (fun _ h9 => h9) rfl d_M_quarter_111 ?_
    refine lv_iload hx hb d_M_quarter_114 (lv_at hl 1 rfl) ?_
    refine lv_iconst (v := 1) hx hb d_M_quarter_116 (by decide) ?_
    refine lv_iadd hx hb d_M_quarter_117 ?_
    refine tp_i (1) (by decide) ?_
    refine ld_l hx hb hK hP 1 2 rfl rfl 1 (by omega) (by omega) d_M_quarter_118 ?_
    refine tp_l (0) (rfl) ?_
    refine lv_lneg hx hb d_M_quarter_119 ?_
    refine sf_l (f8 (-0) 0 65536 36195 36195 65536 0 65536) hx hb hK hP hD hS 1 2 rfl rfl 0 f8_0 (by decide) (by decide) d_M_quarter_120 (fun H locs hP hD hS => ?_)
    have hP : va_P D cl [(hm, .inr (1, [.ref a, .ref b, .ref qa, .ref qu, .ref qb, .ref qh, .ref qm])), (qu, .inl (cJ, 8, .inr (.inl (f8 (-0) 0 65536 36195 36195 65536 0 65536))))] H := hP
    have hD : va_D A [(hm, .inr (1, [.ref a, .ref b, .ref qa, .ref qu, .ref qb, .ref qh, .ref qm])), (qu, .inl (cJ, 8, .inr (.inl (f8 (-0) 0 65536 36195 36195 65536 0 65536))))] := hD
    refine lv_aload_n hx hb d_M_quarter_121 rfl (lv_at hl 3 rfl) ?_
    refine va_get (D := D) (ci := 1) (v := .ref qu) (C := R_M) (T := T_M) (N := 7) hx hb hts (ui_M _) hown hK hP 0 rfl rfl 3 (by decide) (hts _ (gwc gw_512)) (fun _ h9 => h9) rfl d_M_quarter_122 ?_
    refine lv_iload hx hb d_M_quarter_125 (lv_at hl 1 rfl) ?_
    refine lv_iconst (v := 1) hx hb d_M_quarter_127 (by decide) ?_
    refine lv_iadd hx hb d_M_quarter_128 ?_
    refine tp_i (1) (by decide) ?_
    refine lv_lload hx hb d_M_quarter_129 (lv_at hl 0 rfl) ?_
    refine sf_l (f8 (-0) 65536 65536 36195 36195 65536 0 65536) hx hb hK hP hD hS 1 2 rfl rfl 1 f8_1 (by decide) (by decide) d_M_quarter_131 (fun H locs hP hD hS => ?_)
    have hP : va_P D cl [(hm, .inr (1, [.ref a, .ref b, .ref qa, .ref qu, .ref qb, .ref qh, .ref qm])), (qu, .inl (cJ, 8, .inr (.inl (f8 (-0) 65536 65536 36195 36195 65536 0 65536))))] H := hP
    have hD : va_D A [(hm, .inr (1, [.ref a, .ref b, .ref qa, .ref qu, .ref qb, .ref qh, .ref qm])), (qu, .inl (cJ, 8, .inr (.inl (f8 (-0) 65536 65536 36195 36195 65536 0 65536))))] := hD
    refine lv_iinc (v := 2) (lv' := [(4, .int 2), (5, .long 65536), (3, .int 0), (0, .ref hm), (1, .long k)]) hx hb d_M_quarter_132 hl (k := 1) rfl (by first | exact nI_add _ 2 | rfl | decide) (by decide) rfl (fun ls hl => ?_)
    refine lv_goto (tgt := 88) hx hb d_M_quarter_135 (by decide) ?_
    refine lv_iload hx hb d_M_quarter_88 (lv_at hl 0 rfl) ?_
    refine lv_bipush (v := 8) hx hb d_M_quarter_90 (by decide) ?_
    refine bn_ge (a1 := 2) (b1 := 8) (tgt := 138) hx hb (by omega) (by omega) d_M_quarter_92 (by decide) (fun c_6 => ?_) (fun c_6 => ?_)
    · exact absurd c_6 (by decide)
    refine lv_aload_n hx hb d_M_quarter_95 rfl (lv_at hl 3 rfl) ?_
    refine va_get (D := D) (ci := 1) (v := .ref qu) (C := R_M) (T := T_M) (N := 7) hx hb hts (ui_M _) hown hK hP 0 rfl rfl 3 (by decide) (hts _ (gwc gw_512)) (fun _ h9 => h9) rfl d_M_quarter_96 ?_
    refine lv_iload hx hb d_M_quarter_99 (lv_at hl 0 rfl) ?_
    refine ld_l hx hb hK hP 1 2 rfl rfl 2 (by omega) (by omega) d_M_quarter_101 ?_
    refine tp_l (65536) (rfl) ?_
    refine lv_lstore (lv' := [(5, .long 65536), (4, .int 2), (3, .int 0), (0, .ref hm), (1, .long k)]) hx hb d_M_quarter_102 hl (by decide) rfl (fun ls hl => ?_)
    refine lv_aload_n hx hb d_M_quarter_104 rfl (lv_at hl 3 rfl) ?_
    refine va_get (D := D) (ci := 1) (v := .ref qu) (C := R_M) (T := T_M) (N := 7) hx hb hts (ui_M _) hown hK hP 0 rfl rfl 3 (by decide) (hts _ (gwc gw_512)) (fun _ h9 => h9) rfl d_M_quarter_105 ?_
    refine lv_iload hx hb d_M_quarter_108 (lv_at hl 1 rfl) ?_
    refine lv_aload_n hx hb d_M_quarter_110 rfl (lv_at hl 3 rfl) ?_
    refine va_get (D := D) (ci := 1) (v := .ref qu) (C := R_M) (T := T_M) (N := 7) hx hb hts (ui_M _) hown hK hP 0 rfl rfl 3 (by decide) (hts _ (gwc gw_512)) (fun _ h9 => h9) rfl d_M_quarter_111 ?_
    refine lv_iload hx hb d_M_quarter_114 (lv_at hl 1 rfl) ?_
    refine lv_iconst (v := 1) hx hb d_M_quarter_116 (by decide) ?_
    refine lv_iadd hx hb d_M_quarter_117 ?_
    refine tp_i (3) (by decide) ?_
    refine ld_l hx hb hK hP 1 2 rfl rfl 3 (by omega) (by omega) d_M_quarter_118 ?_
    refine tp_l (36195) (rfl) ?_
    refine lv_lneg hx hb d_M_quarter_119 ?_
    refine sf_l (f8 (-0) 65536 (-36195) 36195 36195 65536 0 65536) hx hb hK hP hD hS 1 2 rfl rfl 2 f8_2 (by decide) (by decide) d_M_quarter_120 (fun H locs hP hD hS => ?_)
    have hP : va_P D cl [(hm, .inr (1, [.ref a, .ref b, .ref qa, .ref qu, .ref qb, .ref qh, .ref qm])), (qu, .inl (cJ, 8, .inr (.inl (f8 (-0) 65536 (-36195) 36195 36195 65536 0 65536))))] H := hP
    have hD : va_D A [(hm, .inr (1, [.ref a, .ref b, .ref qa, .ref qu, .ref qb, .ref qh, .ref qm])), (qu, .inl (cJ, 8, .inr (.inl (f8 (-0) 65536 (-36195) 36195 36195 65536 0 65536))))] := hD
    refine lv_aload_n hx hb d_M_quarter_121 rfl (lv_at hl 3 rfl) ?_
    refine va_get (D := D) (ci := 1) (v := .ref qu) (C := R_M) (T := T_M) (N := 7) hx hb hts (ui_M _) hown hK hP 0 rfl rfl 3 (by decide) (hts _ (gwc gw_512)) (fun _ h9 => h9) rfl d_M_quarter_122 ?_
    refine lv_iload hx hb d_M_quarter_125 (lv_at hl 1 rfl) ?_
    refine lv_iconst (v := 1) hx hb d_M_quarter_127 (by decide) ?_
    refine lv_iadd hx hb d_M_quarter_128 ?_
    refine tp_i (3) (by decide) ?_
    refine lv_lload hx hb d_M_quarter_129 (lv_at hl 0 rfl) ?_
    refine sf_l (f8 (-0) 65536 (-36195) 65536 36195 65536 0 65536) hx hb hK hP hD hS 1 2 rfl rfl 3 f8_3 (by decide) (by decide) d_M_quarter_131 (fun H locs hP hD hS => ?_)
    have hP : va_P D cl [(hm, .inr (1, [.ref a, .ref b, .ref qa, .ref qu, .ref qb, .ref qh, .ref qm])), (qu, .inl (cJ, 8, .inr (.inl (f8 (-0) 65536 (-36195) 65536 36195 65536 0 65536))))] H := hP
    have hD : va_D A [(hm, .inr (1, [.ref a, .ref b, .ref qa, .ref qu, .ref qb, .ref qh, .ref qm])), (qu, .inl (cJ, 8, .inr (.inl (f8 (-0) 65536 (-36195) 65536 36195 65536 0 65536))))] := hD
    refine lv_iinc (v := 4) (lv' := [(4, .int 4), (5, .long 65536), (3, .int 0), (0, .ref hm), (1, .long k)]) hx hb d_M_quarter_132 hl (k := 1) rfl (by first | exact nI_add _ 2 | rfl | decide) (by decide) rfl (fun ls hl => ?_)
    refine lv_goto (tgt := 88) hx hb d_M_quarter_135 (by decide) ?_
    refine lv_iload hx hb d_M_quarter_88 (lv_at hl 0 rfl) ?_
    refine lv_bipush (v := 8) hx hb d_M_quarter_90 (by decide) ?_
    refine bn_ge (a1 := 4) (b1 := 8) (tgt := 138) hx hb (by omega) (by omega) d_M_quarter_92 (by decide) (fun c_7 => ?_) (fun c_7 => ?_)
    · exact absurd c_7 (by decide)
    refine lv_aload_n hx hb d_M_quarter_95 rfl (lv_at hl 3 rfl) ?_
    refine va_get (D := D) (ci := 1) (v := .ref qu) (C := R_M) (T := T_M) (N := 7) hx hb hts (ui_M _) hown hK hP 0 rfl rfl 3 (by decide) (hts _ (gwc gw_512)) (fun _ h9 => h9) rfl d_M_quarter_96 ?_
    refine lv_iload hx hb d_M_quarter_99 (lv_at hl 0 rfl) ?_
    refine ld_l hx hb hK hP 1 2 rfl rfl 4 (by omega) (by omega) d_M_quarter_101 ?_
    refine tp_l (36195) (rfl) ?_
    refine lv_lstore (lv' := [(5, .long 36195), (4, .int 4), (3, .int 0), (0, .ref hm), (1, .long k)]) hx hb d_M_quarter_102 hl (by decide) rfl (fun ls hl => ?_)
    refine lv_aload_n hx hb d_M_quarter_104 rfl (lv_at hl 3 rfl) ?_
    refine va_get (D := D) (ci := 1) (v := .ref qu) (C := R_M) (T := T_M) (N := 7) hx hb hts (ui_M _) hown hK hP 0 rfl rfl 3 (by decide) (hts _ (gwc gw_512)) (fun _ h9 => h9) rfl d_M_quarter_105 ?_
    refine lv_iload hx hb d_M_quarter_108 (lv_at hl 1 rfl) ?_
    refine lv_aload_n hx hb d_M_quarter_110 rfl (lv_at hl 3 rfl) ?_
    refine va_get (D := D) (ci := 1) (v := .ref qu) (C := R_M) (T := T_M) (N := 7) hx hb hts (ui_M _) hown hK hP 0 rfl rfl 3 (by decide) (hts _ (gwc gw_512)) (fun _ h9 => h9) rfl d_M_quarter_111 ?_
    refine lv_iload hx hb d_M_quarter_114 (lv_at hl 1 rfl) ?_
    refine lv_iconst (v := 1) hx hb d_M_quarter_116 (by decide) ?_
    refine lv_iadd hx hb d_M_quarter_117 ?_
    refine tp_i (5) (by decide) ?_
    refine ld_l hx hb hK hP 1 2 rfl rfl 5 (by omega) (by omega) d_M_quarter_118 ?_
    refine tp_l (65536) (rfl) ?_
    refine lv_lneg hx hb d_M_quarter_119 ?_
    refine sf_l (f8 (-0) 65536 (-36195) 65536 (-65536) 65536 0 65536) hx hb hK hP hD hS 1 2 rfl rfl 4 f8_4 (by decide) (by decide) d_M_quarter_120 (fun H locs hP hD hS => ?_)
    have hP : va_P D cl [(hm, .inr (1, [.ref a, .ref b, .ref qa, .ref qu, .ref qb, .ref qh, .ref qm])), (qu, .inl (cJ, 8, .inr (.inl (f8 (-0) 65536 (-36195) 65536 (-65536) 65536 0 65536))))] H := hP
    have hD : va_D A [(hm, .inr (1, [.ref a, .ref b, .ref qa, .ref qu, .ref qb, .ref qh, .ref qm])), (qu, .inl (cJ, 8, .inr (.inl (f8 (-0) 65536 (-36195) 65536 (-65536) 65536 0 65536))))] := hD
    refine lv_aload_n hx hb d_M_quarter_121 rfl (lv_at hl 3 rfl) ?_
    refine va_get (D := D) (ci := 1) (v := .ref qu) (C := R_M) (T := T_M) (N := 7) hx hb hts (ui_M _) hown hK hP 0 rfl rfl 3 (by decide) (hts _ (gwc gw_512)) (fun _ h9 => h9) rfl d_M_quarter_122 ?_
    refine lv_iload hx hb d_M_quarter_125 (lv_at hl 1 rfl) ?_
    refine lv_iconst (v := 1) hx hb d_M_quarter_127 (by decide) ?_
    refine lv_iadd hx hb d_M_quarter_128 ?_
    refine tp_i (5) (by decide) ?_
    refine lv_lload hx hb d_M_quarter_129 (lv_at hl 0 rfl) ?_
    refine sf_l (f8 (-0) 65536 (-36195) 65536 (-65536) 36195 0 65536) hx hb hK hP hD hS 1 2 rfl rfl 5 f8_5 (by decide) (by decide) d_M_quarter_131 (fun H locs hP hD hS => ?_)
    have hP : va_P D cl [(hm, .inr (1, [.ref a, .ref b, .ref qa, .ref qu, .ref qb, .ref qh, .ref qm])), (qu, .inl (cJ, 8, .inr (.inl (f8 (-0) 65536 (-36195) 65536 (-65536) 36195 0 65536))))] H := hP
    have hD : va_D A [(hm, .inr (1, [.ref a, .ref b, .ref qa, .ref qu, .ref qb, .ref qh, .ref qm])), (qu, .inl (cJ, 8, .inr (.inl (f8 (-0) 65536 (-36195) 65536 (-65536) 36195 0 65536))))] := hD
    refine lv_iinc (v := 6) (lv' := [(4, .int 6), (5, .long 36195), (3, .int 0), (0, .ref hm), (1, .long k)]) hx hb d_M_quarter_132 hl (k := 1) rfl (by first | exact nI_add _ 2 | rfl | decide) (by decide) rfl (fun ls hl => ?_)
    refine lv_goto (tgt := 88) hx hb d_M_quarter_135 (by decide) ?_
    refine lv_iload hx hb d_M_quarter_88 (lv_at hl 0 rfl) ?_
    refine lv_bipush (v := 8) hx hb d_M_quarter_90 (by decide) ?_
    refine bn_ge (a1 := 6) (b1 := 8) (tgt := 138) hx hb (by omega) (by omega) d_M_quarter_92 (by decide) (fun c_8 => ?_) (fun c_8 => ?_)
    · exact absurd c_8 (by decide)
    refine lv_aload_n hx hb d_M_quarter_95 rfl (lv_at hl 3 rfl) ?_
    refine va_get (D := D) (ci := 1) (v := .ref qu) (C := R_M) (T := T_M) (N := 7) hx hb hts (ui_M _) hown hK hP 0 rfl rfl 3 (by decide) (hts _ (gwc gw_512)) (fun _ h9 => h9) rfl d_M_quarter_96 ?_
    refine lv_iload hx hb d_M_quarter_99 (lv_at hl 0 rfl) ?_
    refine ld_l hx hb hK hP 1 2 rfl rfl 6 (by omega) (by omega) d_M_quarter_101 ?_
    refine tp_l (0) (rfl) ?_
    refine lv_lstore (lv' := [(5, .long 0), (4, .int 6), (3, .int 0), (0, .ref hm), (1, .long k)]) hx hb d_M_quarter_102 hl (by decide) rfl (fun ls hl => ?_)
    refine lv_aload_n hx hb d_M_quarter_104 rfl (lv_at hl 3 rfl) ?_
    refine va_get (D := D) (ci := 1) (v := .ref qu) (C := R_M) (T := T_M) (N := 7) hx hb hts (ui_M _) hown hK hP 0 rfl rfl 3 (by decide) (hts _ (gwc gw_512)) (fun _ h9 => h9) rfl d_M_quarter_105 ?_
    refine lv_iload hx hb d_M_quarter_108 (lv_at hl 1 rfl) ?_
    refine lv_aload_n hx hb d_M_quarter_110 rfl (lv_at hl 3 rfl) ?_
    refine va_get (D := D) (ci := 1) (v := .ref qu) (C := R_M) (T := T_M) (N := 7) hx hb hts (ui_M _) hown hK hP 0 rfl rfl 3 (by decide) (hts _ (gwc gw_512)) (fun _ h9 => h9) rfl d_M_quarter_111 ?_
    refine lv_iload hx hb d_M_quarter_114 (lv_at hl 1 rfl) ?_
    refine lv_iconst (v := 1) hx hb d_M_quarter_116 (by decide) ?_
    refine lv_iadd hx hb d_M_quarter_117 ?_
    refine tp_i (7) (by decide) ?_
    refine ld_l hx hb hK hP 1 2 rfl rfl 7 (by omega) (by omega) d_M_quarter_118 ?_
    refine tp_l (65536) (rfl) ?_
    refine lv_lneg hx hb d_M_quarter_119 ?_
    refine sf_l (f8 (-0) 65536 (-36195) 65536 (-65536) 36195 (-65536) 65536) hx hb hK hP hD hS 1 2 rfl rfl 6 f8_6 (by decide) (by decide) d_M_quarter_120 (fun H locs hP hD hS => ?_)
    have hP : va_P D cl [(hm, .inr (1, [.ref a, .ref b, .ref qa, .ref qu, .ref qb, .ref qh, .ref qm])), (qu, .inl (cJ, 8, .inr (.inl (f8 (-0) 65536 (-36195) 65536 (-65536) 36195 (-65536) 65536))))] H := hP
    have hD : va_D A [(hm, .inr (1, [.ref a, .ref b, .ref qa, .ref qu, .ref qb, .ref qh, .ref qm])), (qu, .inl (cJ, 8, .inr (.inl (f8 (-0) 65536 (-36195) 65536 (-65536) 36195 (-65536) 65536))))] := hD
    refine lv_aload_n hx hb d_M_quarter_121 rfl (lv_at hl 3 rfl) ?_
    refine va_get (D := D) (ci := 1) (v := .ref qu) (C := R_M) (T := T_M) (N := 7) hx hb hts (ui_M _) hown hK hP 0 rfl rfl 3 (by decide) (hts _ (gwc gw_512)) (fun _ h9 => h9) rfl d_M_quarter_122 ?_
    refine lv_iload hx hb d_M_quarter_125 (lv_at hl 1 rfl) ?_
    refine lv_iconst (v := 1) hx hb d_M_quarter_127 (by decide) ?_
    refine lv_iadd hx hb d_M_quarter_128 ?_
    refine tp_i (7) (by decide) ?_
    refine lv_lload hx hb d_M_quarter_129 (lv_at hl 0 rfl) ?_
    refine sf_l (f8 (-0) 65536 (-36195) 65536 (-65536) 36195 (-65536) 0) hx hb hK hP hD hS 1 2 rfl rfl 7 f8_7 (by decide) (by decide) d_M_quarter_131 (fun H locs hP hD hS => ?_)
    have hP : va_P D cl [(hm, .inr (1, [.ref a, .ref b, .ref qa, .ref qu, .ref qb, .ref qh, .ref qm])), (qu, .inl (cJ, 8, .inr (.inl (f8 (-0) 65536 (-36195) 65536 (-65536) 36195 (-65536) 0))))] H := hP
    have hD : va_D A [(hm, .inr (1, [.ref a, .ref b, .ref qa, .ref qu, .ref qb, .ref qh, .ref qm])), (qu, .inl (cJ, 8, .inr (.inl (f8 (-0) 65536 (-36195) 65536 (-65536) 36195 (-65536) 0))))] := hD
    refine lv_iinc (v := 8) (lv' := [(4, .int 8), (5, .long 0), (3, .int 0), (0, .ref hm), (1, .long k)]) hx hb d_M_quarter_132 hl (k := 1) rfl (by first | exact nI_add _ 2 | rfl | decide) (by decide) rfl (fun ls hl => ?_)
    refine lv_goto (tgt := 88) hx hb d_M_quarter_135 (by decide) ?_
    refine lv_iload hx hb d_M_quarter_88 (lv_at hl 0 rfl) ?_
    refine lv_bipush (v := 8) hx hb d_M_quarter_90 (by decide) ?_
    refine bn_ge (a1 := 8) (b1 := 8) (tgt := 138) hx hb (by omega) (by omega) d_M_quarter_92 (by decide) (fun c_9 => ?_) (fun c_9 => ?_)
    rotate_left
    · exact absurd c_9 (by decide)
    refine lv_iinc (v := 1) (lv' := [(3, .int 1), (4, .int 8), (5, .long 0), (0, .ref hm), (1, .long k)]) hx hb d_M_quarter_138 hl (k := 2) rfl (by first | exact nI_add _ 1 | rfl | decide) (by decide) rfl (fun ls hl => ?_)
    refine lv_goto (tgt := 72) hx hb d_M_quarter_141 (by decide) ?_
    refine lv_iload_n hx hb d_M_quarter_72 rfl (lv_at hl 0 rfl) ?_
    refine lv_i2l (v := 1) hx hb d_M_quarter_73 (by decide) ?_
    refine lv_lload_n hx hb d_M_quarter_74 rfl (lv_at hl 4 rfl) ?_
    refine lv_ldc2 (v := 4) hx hb hown (hts _ (gwc gw_641)) d_M_quarter_75 ?_
    refine ct_callS (av := [.long k, .long 4]) (rest := [.long 1]) (wr := [(hm, .inr (1, [.ref a, .ref b, .ref qa, .ref qu, .ref qb, .ref qh, .ref qm])), (qu, .inl (cJ, 8, .inr (.inl (f8 (-0) 65536 (-36195) 65536 (-65536) 36195 (-65536) 0))))]) (n := 2) (c_floorMod l D cI cB cJ qQ  k 4 (by decide)) hx hb hml hown hts (amb_ok qQ) hK hP hD hS hA hM (gi_S gw_629 gw_250 gw_35 gw_251) rfl (by decide +kernel) ⟨by omega, by omega⟩ [] [0, 1] rfl rfl rfl rfl (by decide) rfl hl.1 rfl (Nat.le_of_ble_eq_true rfl) d_M_quarter_78 ⟨by omega, by omega⟩ (fun u_10 H locs hok hP hD hS => ?_)
    have hP : va_P D cl [(hm, .inr (1, [.ref a, .ref b, .ref qa, .ref qu, .ref qb, .ref qh, .ref qm])), (qu, .inl (cJ, 8, .inr (.inl (f8 (-0) 65536 (-36195) 65536 (-65536) 36195 (-65536) 0))))] H := hP
    have hD : va_D A [(hm, .inr (1, [.ref a, .ref b, .ref qa, .ref qu, .ref qb, .ref qh, .ref qm])), (qu, .inl (cJ, 8, .inr (.inl (f8 (-0) 65536 (-36195) 65536 (-65536) 36195 (-65536) 0))))] := hD
    refine W.eq (g2 := F0 m 81 ls [.long (fmd k 4), .long 1]) rfl ?_
    refine tp_l (1) (h_) ?_
    refine W.lcmp hx hb d_M_quarter_81 ?_
    refine lc_ge (tgt := 144) hx hb d_M_quarter_82 (by decide) (fun c_11 => ?_) (fun c_11 => ?_)
    rotate_left
    · exact absurd c_11 (by decide)
    exact ct_retv hQ hx hb hr hlocks hP hD hS (-0, 65536, -36195, 65536, -65536, 36195, -65536, 0) [(hm, .inr (1, [.ref a, .ref b, .ref qa, .ref qu, .ref qb, .ref qh, .ref qm])), (qu, .inl (cJ, 8, .inr (.inl (f8 (-0) 65536 (-36195) 65536 (-65536) 36195 (-65536) 0))))] [0, 1] (rfl) (by rw [h_]; first | exact rfl | (dsimp only; decide)) (rfl) rfl rfl (by omega) (by omega) d_M_quarter_144
  · skip
    refine lv_aload_n hx hb d_M_quarter_0 rfl (lv_at hl 0 rfl) ?_
    refine va_get (D := D) (ci := 1) (v := .ref qu) (C := R_M) (T := T_M) (N := 7) hx hb hts (ui_M _) hown hK hP 0 rfl rfl 3 (by decide) (hts _ (gwc gw_512)) (fun _ h9 => h9) rfl d_M_quarter_1 ?_
    refine lv_iconst (v := 0) hx hb d_M_quarter_4 (by decide) ?_
    refine lv_ldc2 (v := 65536) hx hb hown (hts _ (gwc gw_635)) d_M_quarter_5 ?_
    refine sf_l (f8 65536 u1 u2 u3 u4 u5 u6 u7) hx hb hK hP hD hS 1 2 rfl rfl 0 f8_0 (by decide) (by decide) d_M_quarter_8 (fun H locs hP hD hS => ?_)
    have hP : va_P D cl [(hm, .inr (1, [.ref a, .ref b, .ref qa, .ref qu, .ref qb, .ref qh, .ref qm])), (qu, .inl (cJ, 8, .inr (.inl (f8 65536 u1 u2 u3 u4 u5 u6 u7))))] H := hP
    have hD : va_D A [(hm, .inr (1, [.ref a, .ref b, .ref qa, .ref qu, .ref qb, .ref qh, .ref qm])), (qu, .inl (cJ, 8, .inr (.inl (f8 65536 u1 u2 u3 u4 u5 u6 u7))))] := hD
    refine lv_aload_n hx hb d_M_quarter_9 rfl (lv_at hl 0 rfl) ?_
    refine va_get (D := D) (ci := 1) (v := .ref qu) (C := R_M) (T := T_M) (N := 7) hx hb hts (ui_M _) hown hK hP 0 rfl rfl 3 (by decide) (hts _ (gwc gw_512)) (fun _ h9 => h9) rfl d_M_quarter_10 ?_
    refine lv_iconst (v := 1) hx hb d_M_quarter_13 (by decide) ?_
    refine lv_lconst (v := 0) hx hb d_M_quarter_14 (by decide) ?_
    refine sf_l (f8 65536 0 u2 u3 u4 u5 u6 u7) hx hb hK hP hD hS 1 2 rfl rfl 1 f8_1 (by decide) (by decide) d_M_quarter_15 (fun H locs hP hD hS => ?_)
    have hP : va_P D cl [(hm, .inr (1, [.ref a, .ref b, .ref qa, .ref qu, .ref qb, .ref qh, .ref qm])), (qu, .inl (cJ, 8, .inr (.inl (f8 65536 0 u2 u3 u4 u5 u6 u7))))] H := hP
    have hD : va_D A [(hm, .inr (1, [.ref a, .ref b, .ref qa, .ref qu, .ref qb, .ref qh, .ref qm])), (qu, .inl (cJ, 8, .inr (.inl (f8 65536 0 u2 u3 u4 u5 u6 u7))))] := hD
    refine lv_aload_n hx hb d_M_quarter_16 rfl (lv_at hl 0 rfl) ?_
    refine va_get (D := D) (ci := 1) (v := .ref qu) (C := R_M) (T := T_M) (N := 7) hx hb hts (ui_M _) hown hK hP 0 rfl rfl 3 (by decide) (hts _ (gwc gw_512)) (fun _ h9 => h9) rfl d_M_quarter_17 ?_
    refine lv_iconst (v := 2) hx hb d_M_quarter_20 (by decide) ?_
    refine lv_ldc2 (v := 65536) hx hb hown (hts _ (gwc gw_635)) d_M_quarter_21 ?_
    refine sf_l (f8 65536 0 65536 u3 u4 u5 u6 u7) hx hb hK hP hD hS 1 2 rfl rfl 2 f8_2 (by decide) (by decide) d_M_quarter_24 (fun H locs hP hD hS => ?_)
    have hP : va_P D cl [(hm, .inr (1, [.ref a, .ref b, .ref qa, .ref qu, .ref qb, .ref qh, .ref qm])), (qu, .inl (cJ, 8, .inr (.inl (f8 65536 0 65536 u3 u4 u5 u6 u7))))] H := hP
    have hD : va_D A [(hm, .inr (1, [.ref a, .ref b, .ref qa, .ref qu, .ref qb, .ref qh, .ref qm])), (qu, .inl (cJ, 8, .inr (.inl (f8 65536 0 65536 u3 u4 u5 u6 u7))))] := hD
    refine lv_aload_n hx hb d_M_quarter_25 rfl (lv_at hl 0 rfl) ?_
    refine va_get (D := D) (ci := 1) (v := .ref qu) (C := R_M) (T := T_M) (N := 7) hx hb hts (ui_M _) hown hK hP 0 rfl rfl 3 (by decide) (hts _ (gwc gw_512)) (fun _ h9 => h9) rfl d_M_quarter_26 ?_
    refine lv_iconst (v := 3) hx hb d_M_quarter_29 (by decide) ?_
    refine lv_ldc2 (v := 36195) hx hb hown (hts _ (gwc gw_640)) d_M_quarter_30 ?_
    refine sf_l (f8 65536 0 65536 36195 u4 u5 u6 u7) hx hb hK hP hD hS 1 2 rfl rfl 3 f8_3 (by decide) (by decide) d_M_quarter_33 (fun H locs hP hD hS => ?_)
    have hP : va_P D cl [(hm, .inr (1, [.ref a, .ref b, .ref qa, .ref qu, .ref qb, .ref qh, .ref qm])), (qu, .inl (cJ, 8, .inr (.inl (f8 65536 0 65536 36195 u4 u5 u6 u7))))] H := hP
    have hD : va_D A [(hm, .inr (1, [.ref a, .ref b, .ref qa, .ref qu, .ref qb, .ref qh, .ref qm])), (qu, .inl (cJ, 8, .inr (.inl (f8 65536 0 65536 36195 u4 u5 u6 u7))))] := hD
    refine lv_aload_n hx hb d_M_quarter_34 rfl (lv_at hl 0 rfl) ?_
    refine va_get (D := D) (ci := 1) (v := .ref qu) (C := R_M) (T := T_M) (N := 7) hx hb hts (ui_M _) hown hK hP 0 rfl rfl 3 (by decide) (hts _ (gwc gw_512)) (fun _ h9 => h9) rfl d_M_quarter_35 ?_
    refine lv_iconst (v := 4) hx hb d_M_quarter_38 (by decide) ?_
    refine lv_ldc2 (v := 36195) hx hb hown (hts _ (gwc gw_640)) d_M_quarter_39 ?_
    refine sf_l (f8 65536 0 65536 36195 36195 u5 u6 u7) hx hb hK hP hD hS 1 2 rfl rfl 4 f8_4 (by decide) (by decide) d_M_quarter_42 (fun H locs hP hD hS => ?_)
    have hP : va_P D cl [(hm, .inr (1, [.ref a, .ref b, .ref qa, .ref qu, .ref qb, .ref qh, .ref qm])), (qu, .inl (cJ, 8, .inr (.inl (f8 65536 0 65536 36195 36195 u5 u6 u7))))] H := hP
    have hD : va_D A [(hm, .inr (1, [.ref a, .ref b, .ref qa, .ref qu, .ref qb, .ref qh, .ref qm])), (qu, .inl (cJ, 8, .inr (.inl (f8 65536 0 65536 36195 36195 u5 u6 u7))))] := hD
    refine lv_aload_n hx hb d_M_quarter_43 rfl (lv_at hl 0 rfl) ?_
    refine va_get (D := D) (ci := 1) (v := .ref qu) (C := R_M) (T := T_M) (N := 7) hx hb hts (ui_M _) hown hK hP 0 rfl rfl 3 (by decide) (hts _ (gwc gw_512)) (fun _ h9 => h9) rfl d_M_quarter_44 ?_
    refine lv_iconst (v := 5) hx hb d_M_quarter_47 (by decide) ?_
    refine lv_ldc2 (v := 65536) hx hb hown (hts _ (gwc gw_635)) d_M_quarter_48 ?_
    refine sf_l (f8 65536 0 65536 36195 36195 65536 u6 u7) hx hb hK hP hD hS 1 2 rfl rfl 5 f8_5 (by decide) (by decide) d_M_quarter_51 (fun H locs hP hD hS => ?_)
    have hP : va_P D cl [(hm, .inr (1, [.ref a, .ref b, .ref qa, .ref qu, .ref qb, .ref qh, .ref qm])), (qu, .inl (cJ, 8, .inr (.inl (f8 65536 0 65536 36195 36195 65536 u6 u7))))] H := hP
    have hD : va_D A [(hm, .inr (1, [.ref a, .ref b, .ref qa, .ref qu, .ref qb, .ref qh, .ref qm])), (qu, .inl (cJ, 8, .inr (.inl (f8 65536 0 65536 36195 36195 65536 u6 u7))))] := hD
    refine lv_aload_n hx hb d_M_quarter_52 rfl (lv_at hl 0 rfl) ?_
    refine va_get (D := D) (ci := 1) (v := .ref qu) (C := R_M) (T := T_M) (N := 7) hx hb hts (ui_M _) hown hK hP 0 rfl rfl 3 (by decide) (hts _ (gwc gw_512)) (fun _ h9 => h9) rfl d_M_quarter_53 ?_
    refine lv_bipush (v := 6) hx hb d_M_quarter_56 (by decide) ?_
    refine lv_lconst (v := 0) hx hb d_M_quarter_58 (by decide) ?_
    refine sf_l (f8 65536 0 65536 36195 36195 65536 0 u7) hx hb hK hP hD hS 1 2 rfl rfl 6 f8_6 (by decide) (by decide) d_M_quarter_59 (fun H locs hP hD hS => ?_)
    have hP : va_P D cl [(hm, .inr (1, [.ref a, .ref b, .ref qa, .ref qu, .ref qb, .ref qh, .ref qm])), (qu, .inl (cJ, 8, .inr (.inl (f8 65536 0 65536 36195 36195 65536 0 u7))))] H := hP
    have hD : va_D A [(hm, .inr (1, [.ref a, .ref b, .ref qa, .ref qu, .ref qb, .ref qh, .ref qm])), (qu, .inl (cJ, 8, .inr (.inl (f8 65536 0 65536 36195 36195 65536 0 u7))))] := hD
    refine lv_aload_n hx hb d_M_quarter_60 rfl (lv_at hl 0 rfl) ?_
    refine va_get (D := D) (ci := 1) (v := .ref qu) (C := R_M) (T := T_M) (N := 7) hx hb hts (ui_M _) hown hK hP 0 rfl rfl 3 (by decide) (hts _ (gwc gw_512)) (fun _ h9 => h9) rfl d_M_quarter_61 ?_
    refine lv_bipush (v := 7) hx hb d_M_quarter_64 (by decide) ?_
    refine lv_ldc2 (v := 65536) hx hb hown (hts _ (gwc gw_635)) d_M_quarter_66 ?_
    refine sf_l (f8 65536 0 65536 36195 36195 65536 0 65536) hx hb hK hP hD hS 1 2 rfl rfl 7 f8_7 (by decide) (by decide) d_M_quarter_69 (fun H locs hP hD hS => ?_)
    have hP : va_P D cl [(hm, .inr (1, [.ref a, .ref b, .ref qa, .ref qu, .ref qb, .ref qh, .ref qm])), (qu, .inl (cJ, 8, .inr (.inl (f8 65536 0 65536 36195 36195 65536 0 65536))))] H := hP
    have hD : va_D A [(hm, .inr (1, [.ref a, .ref b, .ref qa, .ref qu, .ref qb, .ref qh, .ref qm])), (qu, .inl (cJ, 8, .inr (.inl (f8 65536 0 65536 36195 36195 65536 0 65536))))] := hD
    refine lv_iconst (v := 0) hx hb d_M_quarter_70 (by decide) ?_
    refine lv_istore_n (lv' := [(3, .int 0), (0, .ref hm), (1, .long k)]) hx hb d_M_quarter_71 rfl hl (by decide) rfl (fun ls hl => ?_)
    refine lv_iload_n hx hb d_M_quarter_72 rfl (lv_at hl 0 rfl) ?_
    refine lv_i2l (v := 0) hx hb d_M_quarter_73 (by decide) ?_
    refine lv_lload_n hx hb d_M_quarter_74 rfl (lv_at hl 2 rfl) ?_
    refine lv_ldc2 (v := 4) hx hb hown (hts _ (gwc gw_641)) d_M_quarter_75 ?_
    refine ct_callS (av := [.long k, .long 4]) (rest := [.long 0]) (wr := [(hm, .inr (1, [.ref a, .ref b, .ref qa, .ref qu, .ref qb, .ref qh, .ref qm])), (qu, .inl (cJ, 8, .inr (.inl (f8 65536 0 65536 36195 36195 65536 0 65536))))]) (n := 2) (c_floorMod l D cI cB cJ qQ  k 4 (by decide)) hx hb hml hown hts (amb_ok qQ) hK hP hD hS hA hM (gi_S gw_629 gw_250 gw_35 gw_251) rfl (by decide +kernel) ⟨by omega, by omega⟩ [] [0, 1] rfl rfl rfl rfl (by decide) rfl hl.1 rfl (Nat.le_of_ble_eq_true rfl) d_M_quarter_78 ⟨by omega, by omega⟩ (fun u_12 H locs hok hP hD hS => ?_)
    have hP : va_P D cl [(hm, .inr (1, [.ref a, .ref b, .ref qa, .ref qu, .ref qb, .ref qh, .ref qm])), (qu, .inl (cJ, 8, .inr (.inl (f8 65536 0 65536 36195 36195 65536 0 65536))))] H := hP
    have hD : va_D A [(hm, .inr (1, [.ref a, .ref b, .ref qa, .ref qu, .ref qb, .ref qh, .ref qm])), (qu, .inl (cJ, 8, .inr (.inl (f8 65536 0 65536 36195 36195 65536 0 65536))))] := hD
    refine W.eq (g2 := F0 m 81 ls [.long (fmd k 4), .long 0]) rfl ?_
    refine tp_l (2) (h_) ?_
    refine W.lcmp hx hb d_M_quarter_81 ?_
    refine lc_ge (tgt := 144) hx hb d_M_quarter_82 (by decide) (fun c_13 => ?_) (fun c_13 => ?_)
    · exact absurd c_13 (by decide)
    refine lv_iconst (v := 0) hx hb d_M_quarter_85 (by decide) ?_
    refine lv_istore (lv' := [(4, .int 0), (3, .int 0), (0, .ref hm), (1, .long k)]) hx hb d_M_quarter_86 hl (by decide) rfl (fun ls hl => ?_)
    refine lv_iload hx hb d_M_quarter_88 (lv_at hl 0 rfl) ?_
    refine lv_bipush (v := 8) hx hb d_M_quarter_90 (by decide) ?_
    refine bn_ge (a1 := 0) (b1 := 8) (tgt := 138) hx hb (by omega) (by omega) d_M_quarter_92 (by decide) (fun c_14 => ?_) (fun c_14 => ?_)
    · exact absurd c_14 (by decide)
    refine lv_aload_n hx hb d_M_quarter_95 rfl (lv_at hl 2 rfl) ?_
    refine va_get (D := D) (ci := 1) (v := .ref qu) (C := R_M) (T := T_M) (N := 7) hx hb hts (ui_M _) hown hK hP 0 rfl rfl 3 (by decide) (hts _ (gwc gw_512)) (fun _ h9 => h9) rfl d_M_quarter_96 ?_
    refine lv_iload hx hb d_M_quarter_99 (lv_at hl 0 rfl) ?_
    refine ld_l hx hb hK hP 1 2 rfl rfl 0 (by omega) (by omega) d_M_quarter_101 ?_
    refine tp_l (65536) (rfl) ?_
    refine lv_lstore (lv' := [(5, .long 65536), (4, .int 0), (3, .int 0), (0, .ref hm), (1, .long k)]) hx hb d_M_quarter_102 hl (by decide) rfl (fun ls hl => ?_)
    refine lv_aload_n hx hb d_M_quarter_104 rfl (lv_at hl 3 rfl) ?_
    refine va_get (D := D) (ci := 1) (v := .ref qu) (C := R_M) (T := T_M) (N := 7) hx hb hts (ui_M _) hown hK hP 0 rfl rfl 3 (by decide) (hts _ (gwc gw_512)) (fun _ h9 => h9) rfl d_M_quarter_105 ?_
    refine lv_iload hx hb d_M_quarter_108 (lv_at hl 1 rfl) ?_
    refine lv_aload_n hx hb d_M_quarter_110 rfl (lv_at hl 3 rfl) ?_
    refine va_get (D := D) (ci := 1) (v := .ref qu) (C := R_M) (T := T_M) (N := 7) hx hb hts (ui_M _) hown hK hP 0 rfl rfl 3 (by decide) (hts _ (gwc gw_512)) (fun _ h9 => h9) rfl d_M_quarter_111 ?_
    refine lv_iload hx hb d_M_quarter_114 (lv_at hl 1 rfl) ?_
    refine lv_iconst (v := 1) hx hb d_M_quarter_116 (by decide) ?_
    refine lv_iadd hx hb d_M_quarter_117 ?_
    refine tp_i (1) (by decide) ?_
    refine ld_l hx hb hK hP 1 2 rfl rfl 1 (by omega) (by omega) d_M_quarter_118 ?_
    refine tp_l (0) (rfl) ?_
    refine lv_lneg hx hb d_M_quarter_119 ?_
    refine sf_l (f8 (-0) 0 65536 36195 36195 65536 0 65536) hx hb hK hP hD hS 1 2 rfl rfl 0 f8_0 (by decide) (by decide) d_M_quarter_120 (fun H locs hP hD hS => ?_)
    have hP : va_P D cl [(hm, .inr (1, [.ref a, .ref b, .ref qa, .ref qu, .ref qb, .ref qh, .ref qm])), (qu, .inl (cJ, 8, .inr (.inl (f8 (-0) 0 65536 36195 36195 65536 0 65536))))] H := hP
    have hD : va_D A [(hm, .inr (1, [.ref a, .ref b, .ref qa, .ref qu, .ref qb, .ref qh, .ref qm])), (qu, .inl (cJ, 8, .inr (.inl (f8 (-0) 0 65536 36195 36195 65536 0 65536))))] := hD
    refine lv_aload_n hx hb d_M_quarter_121 rfl (lv_at hl 3 rfl) ?_
    refine va_get (D := D) (ci := 1) (v := .ref qu) (C := R_M) (T := T_M) (N := 7) hx hb hts (ui_M _) hown hK hP 0 rfl rfl 3 (by decide) (hts _ (gwc gw_512)) (fun _ h9 => h9) rfl d_M_quarter_122 ?_
    refine lv_iload hx hb d_M_quarter_125 (lv_at hl 1 rfl) ?_
    refine lv_iconst (v := 1) hx hb d_M_quarter_127 (by decide) ?_
    refine lv_iadd hx hb d_M_quarter_128 ?_
    refine tp_i (1) (by decide) ?_
    refine lv_lload hx hb d_M_quarter_129 (lv_at hl 0 rfl) ?_
    refine sf_l (f8 (-0) 65536 65536 36195 36195 65536 0 65536) hx hb hK hP hD hS 1 2 rfl rfl 1 f8_1 (by decide) (by decide) d_M_quarter_131 (fun H locs hP hD hS => ?_)
    have hP : va_P D cl [(hm, .inr (1, [.ref a, .ref b, .ref qa, .ref qu, .ref qb, .ref qh, .ref qm])), (qu, .inl (cJ, 8, .inr (.inl (f8 (-0) 65536 65536 36195 36195 65536 0 65536))))] H := hP
    have hD : va_D A [(hm, .inr (1, [.ref a, .ref b, .ref qa, .ref qu, .ref qb, .ref qh, .ref qm])), (qu, .inl (cJ, 8, .inr (.inl (f8 (-0) 65536 65536 36195 36195 65536 0 65536))))] := hD
    refine lv_iinc (v := 2) (lv' := [(4, .int 2), (5, .long 65536), (3, .int 0), (0, .ref hm), (1, .long k)]) hx hb d_M_quarter_132 hl (k := 1) rfl (by first | exact nI_add _ 2 | rfl | decide) (by decide) rfl (fun ls hl => ?_)
    refine lv_goto (tgt := 88) hx hb d_M_quarter_135 (by decide) ?_
    refine lv_iload hx hb d_M_quarter_88 (lv_at hl 0 rfl) ?_
    refine lv_bipush (v := 8) hx hb d_M_quarter_90 (by decide) ?_
    refine bn_ge (a1 := 2) (b1 := 8) (tgt := 138) hx hb (by omega) (by omega) d_M_quarter_92 (by decide) (fun c_15 => ?_) (fun c_15 => ?_)
    · exact absurd c_15 (by decide)
    refine lv_aload_n hx hb d_M_quarter_95 rfl (lv_at hl 3 rfl) ?_
    refine va_get (D := D) (ci := 1) (v := .ref qu) (C := R_M) (T := T_M) (N := 7) hx hb hts (ui_M _) hown hK hP 0 rfl rfl 3 (by decide) (hts _ (gwc gw_512)) (fun _ h9 => h9) rfl d_M_quarter_96 ?_
    refine lv_iload hx hb d_M_quarter_99 (lv_at hl 0 rfl) ?_
    refine ld_l hx hb hK hP 1 2 rfl rfl 2 (by omega) (by omega) d_M_quarter_101 ?_
    refine tp_l (65536) (rfl) ?_
    refine lv_lstore (lv' := [(5, .long 65536), (4, .int 2), (3, .int 0), (0, .ref hm), (1, .long k)]) hx hb d_M_quarter_102 hl (by decide) rfl (fun ls hl => ?_)
    refine lv_aload_n hx hb d_M_quarter_104 rfl (lv_at hl 3 rfl) ?_
    refine va_get (D := D) (ci := 1) (v := .ref qu) (C := R_M) (T := T_M) (N := 7) hx hb hts (ui_M _) hown hK hP 0 rfl rfl 3 (by decide) (hts _ (gwc gw_512)) (fun _ h9 => h9) rfl d_M_quarter_105 ?_
    refine lv_iload hx hb d_M_quarter_108 (lv_at hl 1 rfl) ?_
    refine lv_aload_n hx hb d_M_quarter_110 rfl (lv_at hl 3 rfl) ?_
    refine va_get (D := D) (ci := 1) (v := .ref qu) (C := R_M) (T := T_M) (N := 7) hx hb hts (ui_M _) hown hK hP 0 rfl rfl 3 (by decide) (hts _ (gwc gw_512)) (fun _ h9 => h9) rfl d_M_quarter_111 ?_
    refine lv_iload hx hb d_M_quarter_114 (lv_at hl 1 rfl) ?_
    refine lv_iconst (v := 1) hx hb d_M_quarter_116 (by decide) ?_
    refine lv_iadd hx hb d_M_quarter_117 ?_
    refine tp_i (3) (by decide) ?_
    refine ld_l hx hb hK hP 1 2 rfl rfl 3 (by omega) (by omega) d_M_quarter_118 ?_
    refine tp_l (36195) (rfl) ?_
    refine lv_lneg hx hb d_M_quarter_119 ?_
    refine sf_l (f8 (-0) 65536 (-36195) 36195 36195 65536 0 65536) hx hb hK hP hD hS 1 2 rfl rfl 2 f8_2 (by decide) (by decide) d_M_quarter_120 (fun H locs hP hD hS => ?_)
    have hP : va_P D cl [(hm, .inr (1, [.ref a, .ref b, .ref qa, .ref qu, .ref qb, .ref qh, .ref qm])), (qu, .inl (cJ, 8, .inr (.inl (f8 (-0) 65536 (-36195) 36195 36195 65536 0 65536))))] H := hP
    have hD : va_D A [(hm, .inr (1, [.ref a, .ref b, .ref qa, .ref qu, .ref qb, .ref qh, .ref qm])), (qu, .inl (cJ, 8, .inr (.inl (f8 (-0) 65536 (-36195) 36195 36195 65536 0 65536))))] := hD
    refine lv_aload_n hx hb d_M_quarter_121 rfl (lv_at hl 3 rfl) ?_
    refine va_get (D := D) (ci := 1) (v := .ref qu) (C := R_M) (T := T_M) (N := 7) hx hb hts (ui_M _) hown hK hP 0 rfl rfl 3 (by decide) (hts _ (gwc gw_512)) (fun _ h9 => h9) rfl d_M_quarter_122 ?_
    refine lv_iload hx hb d_M_quarter_125 (lv_at hl 1 rfl) ?_
    refine lv_iconst (v := 1) hx hb d_M_quarter_127 (by decide) ?_
    refine lv_iadd hx hb d_M_quarter_128 ?_
    refine tp_i (3) (by decide) ?_
    refine lv_lload hx hb d_M_quarter_129 (lv_at hl 0 rfl) ?_
    refine sf_l (f8 (-0) 65536 (-36195) 65536 36195 65536 0 65536) hx hb hK hP hD hS 1 2 rfl rfl 3 f8_3 (by decide) (by decide) d_M_quarter_131 (fun H locs hP hD hS => ?_)
    have hP : va_P D cl [(hm, .inr (1, [.ref a, .ref b, .ref qa, .ref qu, .ref qb, .ref qh, .ref qm])), (qu, .inl (cJ, 8, .inr (.inl (f8 (-0) 65536 (-36195) 65536 36195 65536 0 65536))))] H := hP
    have hD : va_D A [(hm, .inr (1, [.ref a, .ref b, .ref qa, .ref qu, .ref qb, .ref qh, .ref qm])), (qu, .inl (cJ, 8, .inr (.inl (f8 (-0) 65536 (-36195) 65536 36195 65536 0 65536))))] := hD
    refine lv_iinc (v := 4) (lv' := [(4, .int 4), (5, .long 65536), (3, .int 0), (0, .ref hm), (1, .long k)]) hx hb d_M_quarter_132 hl (k := 1) rfl (by first | exact nI_add _ 2 | rfl | decide) (by decide) rfl (fun ls hl => ?_)
    refine lv_goto (tgt := 88) hx hb d_M_quarter_135 (by decide) ?_
    refine lv_iload hx hb d_M_quarter_88 (lv_at hl 0 rfl) ?_
    refine lv_bipush (v := 8) hx hb d_M_quarter_90 (by decide) ?_
    refine bn_ge (a1 := 4) (b1 := 8) (tgt := 138) hx hb (by omega) (by omega) d_M_quarter_92 (by decide) (fun c_16 => ?_) (fun c_16 => ?_)
    · exact absurd c_16 (by decide)
    refine lv_aload_n hx hb d_M_quarter_95 rfl (lv_at hl 3 rfl) ?_
    refine va_get (D := D) (ci := 1) (v := .ref qu) (C := R_M) (T := T_M) (N := 7) hx hb hts (ui_M _) hown hK hP 0 rfl rfl 3 (by decide) (hts _ (gwc gw_512)) (fun _ h9 => h9) rfl d_M_quarter_96 ?_
    refine lv_iload hx hb d_M_quarter_99 (lv_at hl 0 rfl) ?_
    refine ld_l hx hb hK hP 1 2 rfl rfl 4 (by omega) (by omega) d_M_quarter_101 ?_
    refine tp_l (36195) (rfl) ?_
    refine lv_lstore (lv' := [(5, .long 36195), (4, .int 4), (3, .int 0), (0, .ref hm), (1, .long k)]) hx hb d_M_quarter_102 hl (by decide) rfl (fun ls hl => ?_)
    refine lv_aload_n hx hb d_M_quarter_104 rfl (lv_at hl 3 rfl) ?_
    refine va_get (D := D) (ci := 1) (v := .ref qu) (C := R_M) (T := T_M) (N := 7) hx hb hts (ui_M _) hown hK hP 0 rfl rfl 3 (by decide) (hts _ (gwc gw_512)) (fun _ h9 => h9) rfl d_M_quarter_105 ?_
    refine lv_iload hx hb d_M_quarter_108 (lv_at hl 1 rfl) ?_
    refine lv_aload_n hx hb d_M_quarter_110 rfl (lv_at hl 3 rfl) ?_
    refine va_get (D := D) (ci := 1) (v := .ref qu) (C := R_M) (T := T_M) (N := 7) hx hb hts (ui_M _) hown hK hP 0 rfl rfl 3 (by decide) (hts _ (gwc gw_512)) (fun _ h9 => h9) rfl d_M_quarter_111 ?_
    refine lv_iload hx hb d_M_quarter_114 (lv_at hl 1 rfl) ?_
    refine lv_iconst (v := 1) hx hb d_M_quarter_116 (by decide) ?_
    refine lv_iadd hx hb d_M_quarter_117 ?_
    refine tp_i (5) (by decide) ?_
    refine ld_l hx hb hK hP 1 2 rfl rfl 5 (by omega) (by omega) d_M_quarter_118 ?_
    refine tp_l (65536) (rfl) ?_
    refine lv_lneg hx hb d_M_quarter_119 ?_
    refine sf_l (f8 (-0) 65536 (-36195) 65536 (-65536) 65536 0 65536) hx hb hK hP hD hS 1 2 rfl rfl 4 f8_4 (by decide) (by decide) d_M_quarter_120 (fun H locs hP hD hS => ?_)
    have hP : va_P D cl [(hm, .inr (1, [.ref a, .ref b, .ref qa, .ref qu, .ref qb, .ref qh, .ref qm])), (qu, .inl (cJ, 8, .inr (.inl (f8 (-0) 65536 (-36195) 65536 (-65536) 65536 0 65536))))] H := hP
    have hD : va_D A [(hm, .inr (1, [.ref a, .ref b, .ref qa, .ref qu, .ref qb, .ref qh, .ref qm])), (qu, .inl (cJ, 8, .inr (.inl (f8 (-0) 65536 (-36195) 65536 (-65536) 65536 0 65536))))] := hD
    refine lv_aload_n hx hb d_M_quarter_121 rfl (lv_at hl 3 rfl) ?_
    refine va_get (D := D) (ci := 1) (v := .ref qu) (C := R_M) (T := T_M) (N := 7) hx hb hts (ui_M _) hown hK hP 0 rfl rfl 3 (by decide) (hts _ (gwc gw_512)) (fun _ h9 => h9) rfl d_M_quarter_122 ?_
    refine lv_iload hx hb d_M_quarter_125 (lv_at hl 1 rfl) ?_
    refine lv_iconst (v := 1) hx hb d_M_quarter_127 (by decide) ?_
    refine lv_iadd hx hb d_M_quarter_128 ?_
    refine tp_i (5) (by decide) ?_
    refine lv_lload hx hb d_M_quarter_129 (lv_at hl 0 rfl) ?_
    refine sf_l (f8 (-0) 65536 (-36195) 65536 (-65536) 36195 0 65536) hx hb hK hP hD hS 1 2 rfl rfl 5 f8_5 (by decide) (by decide) d_M_quarter_131 (fun H locs hP hD hS => ?_)
    have hP : va_P D cl [(hm, .inr (1, [.ref a, .ref b, .ref qa, .ref qu, .ref qb, .ref qh, .ref qm])), (qu, .inl (cJ, 8, .inr (.inl (f8 (-0) 65536 (-36195) 65536 (-65536) 36195 0 65536))))] H := hP
    have hD : va_D A [(hm, .inr (1, [.ref a, .ref b, .ref qa, .ref qu, .ref qb, .ref qh, .ref qm])), (qu, .inl (cJ, 8, .inr (.inl (f8 (-0) 65536 (-36195) 65536 (-65536) 36195 0 65536))))] := hD
    refine lv_iinc (v := 6) (lv' := [(4, .int 6), (5, .long 36195), (3, .int 0), (0, .ref hm), (1, .long k)]) hx hb d_M_quarter_132 hl (k := 1) rfl (by first | exact nI_add _ 2 | rfl | decide) (by decide) rfl (fun ls hl => ?_)
    refine lv_goto (tgt := 88) hx hb d_M_quarter_135 (by decide) ?_
    refine lv_iload hx hb d_M_quarter_88 (lv_at hl 0 rfl) ?_
    refine lv_bipush (v := 8) hx hb d_M_quarter_90 (by decide) ?_
    refine bn_ge (a1 := 6) (b1 := 8) (tgt := 138) hx hb (by omega) (by omega) d_M_quarter_92 (by decide) (fun c_17 => ?_) (fun c_17 => ?_)
    · exact absurd c_17 (by decide)
    refine lv_aload_n hx hb d_M_quarter_95 rfl (lv_at hl 3 rfl) ?_
    refine va_get (D := D) (ci := 1) (v := .ref qu) (C := R_M) (T := T_M) (N := 7) hx hb hts (ui_M _) hown hK hP 0 rfl rfl 3 (by decide) (hts _ (gwc gw_512)) (fun _ h9 => h9) rfl d_M_quarter_96 ?_
    refine lv_iload hx hb d_M_quarter_99 (lv_at hl 0 rfl) ?_
    refine ld_l hx hb hK hP 1 2 rfl rfl 6 (by omega) (by omega) d_M_quarter_101 ?_
    refine tp_l (0) (rfl) ?_
    refine lv_lstore (lv' := [(5, .long 0), (4, .int 6), (3, .int 0), (0, .ref hm), (1, .long k)]) hx hb d_M_quarter_102 hl (by decide) rfl (fun ls hl => ?_)
    refine lv_aload_n hx hb d_M_quarter_104 rfl (lv_at hl 3 rfl) ?_
    refine va_get (D := D) (ci := 1) (v := .ref qu) (C := R_M) (T := T_M) (N := 7) hx hb hts (ui_M _) hown hK hP 0 rfl rfl 3 (by decide) (hts _ (gwc gw_512)) (fun _ h9 => h9) rfl d_M_quarter_105 ?_
    refine lv_iload hx hb d_M_quarter_108 (lv_at hl 1 rfl) ?_
    refine lv_aload_n hx hb d_M_quarter_110 rfl (lv_at hl 3 rfl) ?_
    refine va_get (D := D) (ci := 1) (v := .ref qu) (C := R_M) (T := T_M) (N := 7) hx hb hts (ui_M _) hown hK hP 0 rfl rfl 3 (by decide) (hts _ (gwc gw_512)) (fun _ h9 => h9) rfl d_M_quarter_111 ?_
    refine lv_iload hx hb d_M_quarter_114 (lv_at hl 1 rfl) ?_
    refine lv_iconst (v := 1) hx hb d_M_quarter_116 (by decide) ?_
    refine lv_iadd hx hb d_M_quarter_117 ?_
    refine tp_i (7) (by decide) ?_
    refine ld_l hx hb hK hP 1 2 rfl rfl 7 (by omega) (by omega) d_M_quarter_118 ?_
    refine tp_l (65536) (rfl) ?_
    refine lv_lneg hx hb d_M_quarter_119 ?_
    refine sf_l (f8 (-0) 65536 (-36195) 65536 (-65536) 36195 (-65536) 65536) hx hb hK hP hD hS 1 2 rfl rfl 6 f8_6 (by decide) (by decide) d_M_quarter_120 (fun H locs hP hD hS => ?_)
    have hP : va_P D cl [(hm, .inr (1, [.ref a, .ref b, .ref qa, .ref qu, .ref qb, .ref qh, .ref qm])), (qu, .inl (cJ, 8, .inr (.inl (f8 (-0) 65536 (-36195) 65536 (-65536) 36195 (-65536) 65536))))] H := hP
    have hD : va_D A [(hm, .inr (1, [.ref a, .ref b, .ref qa, .ref qu, .ref qb, .ref qh, .ref qm])), (qu, .inl (cJ, 8, .inr (.inl (f8 (-0) 65536 (-36195) 65536 (-65536) 36195 (-65536) 65536))))] := hD
    refine lv_aload_n hx hb d_M_quarter_121 rfl (lv_at hl 3 rfl) ?_
    refine va_get (D := D) (ci := 1) (v := .ref qu) (C := R_M) (T := T_M) (N := 7) hx hb hts (ui_M _) hown hK hP 0 rfl rfl 3 (by decide) (hts _ (gwc gw_512)) (fun _ h9 => h9) rfl d_M_quarter_122 ?_
    refine lv_iload hx hb d_M_quarter_125 (lv_at hl 1 rfl) ?_
    refine lv_iconst (v := 1) hx hb d_M_quarter_127 (by decide) ?_
    refine lv_iadd hx hb d_M_quarter_128 ?_
    refine tp_i (7) (by decide) ?_
    refine lv_lload hx hb d_M_quarter_129 (lv_at hl 0 rfl) ?_
    refine sf_l (f8 (-0) 65536 (-36195) 65536 (-65536) 36195 (-65536) 0) hx hb hK hP hD hS 1 2 rfl rfl 7 f8_7 (by decide) (by decide) d_M_quarter_131 (fun H locs hP hD hS => ?_)
    have hP : va_P D cl [(hm, .inr (1, [.ref a, .ref b, .ref qa, .ref qu, .ref qb, .ref qh, .ref qm])), (qu, .inl (cJ, 8, .inr (.inl (f8 (-0) 65536 (-36195) 65536 (-65536) 36195 (-65536) 0))))] H := hP
    have hD : va_D A [(hm, .inr (1, [.ref a, .ref b, .ref qa, .ref qu, .ref qb, .ref qh, .ref qm])), (qu, .inl (cJ, 8, .inr (.inl (f8 (-0) 65536 (-36195) 65536 (-65536) 36195 (-65536) 0))))] := hD
    refine lv_iinc (v := 8) (lv' := [(4, .int 8), (5, .long 0), (3, .int 0), (0, .ref hm), (1, .long k)]) hx hb d_M_quarter_132 hl (k := 1) rfl (by first | exact nI_add _ 2 | rfl | decide) (by decide) rfl (fun ls hl => ?_)
    refine lv_goto (tgt := 88) hx hb d_M_quarter_135 (by decide) ?_
    refine lv_iload hx hb d_M_quarter_88 (lv_at hl 0 rfl) ?_
    refine lv_bipush (v := 8) hx hb d_M_quarter_90 (by decide) ?_
    refine bn_ge (a1 := 8) (b1 := 8) (tgt := 138) hx hb (by omega) (by omega) d_M_quarter_92 (by decide) (fun c_18 => ?_) (fun c_18 => ?_)
    rotate_left
    · exact absurd c_18 (by decide)
    refine lv_iinc (v := 1) (lv' := [(3, .int 1), (4, .int 8), (5, .long 0), (0, .ref hm), (1, .long k)]) hx hb d_M_quarter_138 hl (k := 2) rfl (by first | exact nI_add _ 1 | rfl | decide) (by decide) rfl (fun ls hl => ?_)
    refine lv_goto (tgt := 72) hx hb d_M_quarter_141 (by decide) ?_
    refine lv_iload_n hx hb d_M_quarter_72 rfl (lv_at hl 0 rfl) ?_
    refine lv_i2l (v := 1) hx hb d_M_quarter_73 (by decide) ?_
    refine lv_lload_n hx hb d_M_quarter_74 rfl (lv_at hl 4 rfl) ?_
    refine lv_ldc2 (v := 4) hx hb hown (hts _ (gwc gw_641)) d_M_quarter_75 ?_
    refine ct_callS (av := [.long k, .long 4]) (rest := [.long 1]) (wr := [(hm, .inr (1, [.ref a, .ref b, .ref qa, .ref qu, .ref qb, .ref qh, .ref qm])), (qu, .inl (cJ, 8, .inr (.inl (f8 (-0) 65536 (-36195) 65536 (-65536) 36195 (-65536) 0))))]) (n := 2) (c_floorMod l D cI cB cJ qQ  k 4 (by decide)) hx hb hml hown hts (amb_ok qQ) hK hP hD hS hA hM (gi_S gw_629 gw_250 gw_35 gw_251) rfl (by decide +kernel) ⟨by omega, by omega⟩ [] [0, 1] rfl rfl rfl rfl (by decide) rfl hl.1 rfl (Nat.le_of_ble_eq_true rfl) d_M_quarter_78 ⟨by omega, by omega⟩ (fun u_19 H locs hok hP hD hS => ?_)
    have hP : va_P D cl [(hm, .inr (1, [.ref a, .ref b, .ref qa, .ref qu, .ref qb, .ref qh, .ref qm])), (qu, .inl (cJ, 8, .inr (.inl (f8 (-0) 65536 (-36195) 65536 (-65536) 36195 (-65536) 0))))] H := hP
    have hD : va_D A [(hm, .inr (1, [.ref a, .ref b, .ref qa, .ref qu, .ref qb, .ref qh, .ref qm])), (qu, .inl (cJ, 8, .inr (.inl (f8 (-0) 65536 (-36195) 65536 (-65536) 36195 (-65536) 0))))] := hD
    refine W.eq (g2 := F0 m 81 ls [.long (fmd k 4), .long 1]) rfl ?_
    refine tp_l (2) (h_) ?_
    refine W.lcmp hx hb d_M_quarter_81 ?_
    refine lc_ge (tgt := 144) hx hb d_M_quarter_82 (by decide) (fun c_20 => ?_) (fun c_20 => ?_)
    · exact absurd c_20 (by decide)
    refine lv_iconst (v := 0) hx hb d_M_quarter_85 (by decide) ?_
    refine lv_istore (lv' := [(4, .int 0), (3, .int 1), (5, .long 0), (0, .ref hm), (1, .long k)]) hx hb d_M_quarter_86 hl (by decide) rfl (fun ls hl => ?_)
    refine lv_iload hx hb d_M_quarter_88 (lv_at hl 0 rfl) ?_
    refine lv_bipush (v := 8) hx hb d_M_quarter_90 (by decide) ?_
    refine bn_ge (a1 := 0) (b1 := 8) (tgt := 138) hx hb (by omega) (by omega) d_M_quarter_92 (by decide) (fun c_21 => ?_) (fun c_21 => ?_)
    · exact absurd c_21 (by decide)
    refine lv_aload_n hx hb d_M_quarter_95 rfl (lv_at hl 3 rfl) ?_
    refine va_get (D := D) (ci := 1) (v := .ref qu) (C := R_M) (T := T_M) (N := 7) hx hb hts (ui_M _) hown hK hP 0 rfl rfl 3 (by decide) (hts _ (gwc gw_512)) (fun _ h9 => h9) rfl d_M_quarter_96 ?_
    refine lv_iload hx hb d_M_quarter_99 (lv_at hl 0 rfl) ?_
    refine ld_l hx hb hK hP 1 2 rfl rfl 0 (by omega) (by omega) d_M_quarter_101 ?_
    refine tp_l (-0) (rfl) ?_
    refine lv_lstore (lv' := [(5, .long (-0)), (4, .int 0), (3, .int 1), (0, .ref hm), (1, .long k)]) hx hb d_M_quarter_102 hl (by decide) rfl (fun ls hl => ?_)
    refine lv_aload_n hx hb d_M_quarter_104 rfl (lv_at hl 3 rfl) ?_
    refine va_get (D := D) (ci := 1) (v := .ref qu) (C := R_M) (T := T_M) (N := 7) hx hb hts (ui_M _) hown hK hP 0 rfl rfl 3 (by decide) (hts _ (gwc gw_512)) (fun _ h9 => h9) rfl d_M_quarter_105 ?_
    refine lv_iload hx hb d_M_quarter_108 (lv_at hl 1 rfl) ?_
    refine lv_aload_n hx hb d_M_quarter_110 rfl (lv_at hl 3 rfl) ?_
    refine va_get (D := D) (ci := 1) (v := .ref qu) (C := R_M) (T := T_M) (N := 7) hx hb hts (ui_M _) hown hK hP 0 rfl rfl 3 (by decide) (hts _ (gwc gw_512)) (fun _ h9 => h9) rfl d_M_quarter_111 ?_
    refine lv_iload hx hb d_M_quarter_114 (lv_at hl 1 rfl) ?_
    refine lv_iconst (v := 1) hx hb d_M_quarter_116 (by decide) ?_
    refine lv_iadd hx hb d_M_quarter_117 ?_
    refine tp_i (1) (by decide) ?_
    refine ld_l hx hb hK hP 1 2 rfl rfl 1 (by omega) (by omega) d_M_quarter_118 ?_
    refine tp_l (65536) (rfl) ?_
    refine lv_lneg hx hb d_M_quarter_119 ?_
    refine sf_l (f8 (-65536) 65536 (-36195) 65536 (-65536) 36195 (-65536) 0) hx hb hK hP hD hS 1 2 rfl rfl 0 f8_0 (by decide) (by decide) d_M_quarter_120 (fun H locs hP hD hS => ?_)
    have hP : va_P D cl [(hm, .inr (1, [.ref a, .ref b, .ref qa, .ref qu, .ref qb, .ref qh, .ref qm])), (qu, .inl (cJ, 8, .inr (.inl (f8 (-65536) 65536 (-36195) 65536 (-65536) 36195 (-65536) 0))))] H := hP
    have hD : va_D A [(hm, .inr (1, [.ref a, .ref b, .ref qa, .ref qu, .ref qb, .ref qh, .ref qm])), (qu, .inl (cJ, 8, .inr (.inl (f8 (-65536) 65536 (-36195) 65536 (-65536) 36195 (-65536) 0))))] := hD
    refine lv_aload_n hx hb d_M_quarter_121 rfl (lv_at hl 3 rfl) ?_
    refine va_get (D := D) (ci := 1) (v := .ref qu) (C := R_M) (T := T_M) (N := 7) hx hb hts (ui_M _) hown hK hP 0 rfl rfl 3 (by decide) (hts _ (gwc gw_512)) (fun _ h9 => h9) rfl d_M_quarter_122 ?_
    refine lv_iload hx hb d_M_quarter_125 (lv_at hl 1 rfl) ?_
    refine lv_iconst (v := 1) hx hb d_M_quarter_127 (by decide) ?_
    refine lv_iadd hx hb d_M_quarter_128 ?_
    refine tp_i (1) (by decide) ?_
    refine lv_lload hx hb d_M_quarter_129 (lv_at hl 0 rfl) ?_
    refine sf_l (f8 (-65536) (-0) (-36195) 65536 (-65536) 36195 (-65536) 0) hx hb hK hP hD hS 1 2 rfl rfl 1 f8_1 (by decide) (by decide) d_M_quarter_131 (fun H locs hP hD hS => ?_)
    have hP : va_P D cl [(hm, .inr (1, [.ref a, .ref b, .ref qa, .ref qu, .ref qb, .ref qh, .ref qm])), (qu, .inl (cJ, 8, .inr (.inl (f8 (-65536) (-0) (-36195) 65536 (-65536) 36195 (-65536) 0))))] H := hP
    have hD : va_D A [(hm, .inr (1, [.ref a, .ref b, .ref qa, .ref qu, .ref qb, .ref qh, .ref qm])), (qu, .inl (cJ, 8, .inr (.inl (f8 (-65536) (-0) (-36195) 65536 (-65536) 36195 (-65536) 0))))] := hD
    refine lv_iinc (v := 2) (lv' := [(4, .int 2), (5, .long (-0)), (3, .int 1), (0, .ref hm), (1, .long k)]) hx hb d_M_quarter_132 hl (k := 1) rfl (by first | exact nI_add _ 2 | rfl | decide) (by decide) rfl (fun ls hl => ?_)
    refine lv_goto (tgt := 88) hx hb d_M_quarter_135 (by decide) ?_
    refine lv_iload hx hb d_M_quarter_88 (lv_at hl 0 rfl) ?_
    refine lv_bipush (v := 8) hx hb d_M_quarter_90 (by decide) ?_
    refine bn_ge (a1 := 2) (b1 := 8) (tgt := 138) hx hb (by omega) (by omega) d_M_quarter_92 (by decide) (fun c_22 => ?_) (fun c_22 => ?_)
    · exact absurd c_22 (by decide)
    refine lv_aload_n hx hb d_M_quarter_95 rfl (lv_at hl 3 rfl) ?_
    refine va_get (D := D) (ci := 1) (v := .ref qu) (C := R_M) (T := T_M) (N := 7) hx hb hts (ui_M _) hown hK hP 0 rfl rfl 3 (by decide) (hts _ (gwc gw_512)) (fun _ h9 => h9) rfl d_M_quarter_96 ?_
    refine lv_iload hx hb d_M_quarter_99 (lv_at hl 0 rfl) ?_
    refine ld_l hx hb hK hP 1 2 rfl rfl 2 (by omega) (by omega) d_M_quarter_101 ?_
    refine tp_l (-36195) (rfl) ?_
    refine lv_lstore (lv' := [(5, .long (-36195)), (4, .int 2), (3, .int 1), (0, .ref hm), (1, .long k)]) hx hb d_M_quarter_102 hl (by decide) rfl (fun ls hl => ?_)
    refine lv_aload_n hx hb d_M_quarter_104 rfl (lv_at hl 3 rfl) ?_
    refine va_get (D := D) (ci := 1) (v := .ref qu) (C := R_M) (T := T_M) (N := 7) hx hb hts (ui_M _) hown hK hP 0 rfl rfl 3 (by decide) (hts _ (gwc gw_512)) (fun _ h9 => h9) rfl d_M_quarter_105 ?_
    refine lv_iload hx hb d_M_quarter_108 (lv_at hl 1 rfl) ?_
    refine lv_aload_n hx hb d_M_quarter_110 rfl (lv_at hl 3 rfl) ?_
    refine va_get (D := D) (ci := 1) (v := .ref qu) (C := R_M) (T := T_M) (N := 7) hx hb hts (ui_M _) hown hK hP 0 rfl rfl 3 (by decide) (hts _ (gwc gw_512)) (fun _ h9 => h9) rfl d_M_quarter_111 ?_
    refine lv_iload hx hb d_M_quarter_114 (lv_at hl 1 rfl) ?_
    refine lv_iconst (v := 1) hx hb d_M_quarter_116 (by decide) ?_
    refine lv_iadd hx hb d_M_quarter_117 ?_
    refine tp_i (3) (by decide) ?_
    refine ld_l hx hb hK hP 1 2 rfl rfl 3 (by omega) (by omega) d_M_quarter_118 ?_
    refine tp_l (65536) (rfl) ?_
    refine lv_lneg hx hb d_M_quarter_119 ?_
    refine sf_l (f8 (-65536) (-0) (-65536) 65536 (-65536) 36195 (-65536) 0) hx hb hK hP hD hS 1 2 rfl rfl 2 f8_2 (by decide) (by decide) d_M_quarter_120 (fun H locs hP hD hS => ?_)
    have hP : va_P D cl [(hm, .inr (1, [.ref a, .ref b, .ref qa, .ref qu, .ref qb, .ref qh, .ref qm])), (qu, .inl (cJ, 8, .inr (.inl (f8 (-65536) (-0) (-65536) 65536 (-65536) 36195 (-65536) 0))))] H := hP
    have hD : va_D A [(hm, .inr (1, [.ref a, .ref b, .ref qa, .ref qu, .ref qb, .ref qh, .ref qm])), (qu, .inl (cJ, 8, .inr (.inl (f8 (-65536) (-0) (-65536) 65536 (-65536) 36195 (-65536) 0))))] := hD
    refine lv_aload_n hx hb d_M_quarter_121 rfl (lv_at hl 3 rfl) ?_
    refine va_get (D := D) (ci := 1) (v := .ref qu) (C := R_M) (T := T_M) (N := 7) hx hb hts (ui_M _) hown hK hP 0 rfl rfl 3 (by decide) (hts _ (gwc gw_512)) (fun _ h9 => h9) rfl d_M_quarter_122 ?_
    refine lv_iload hx hb d_M_quarter_125 (lv_at hl 1 rfl) ?_
    refine lv_iconst (v := 1) hx hb d_M_quarter_127 (by decide) ?_
    refine lv_iadd hx hb d_M_quarter_128 ?_
    refine tp_i (3) (by decide) ?_
    refine lv_lload hx hb d_M_quarter_129 (lv_at hl 0 rfl) ?_
    refine sf_l (f8 (-65536) (-0) (-65536) (-36195) (-65536) 36195 (-65536) 0) hx hb hK hP hD hS 1 2 rfl rfl 3 f8_3 (by decide) (by decide) d_M_quarter_131 (fun H locs hP hD hS => ?_)
    have hP : va_P D cl [(hm, .inr (1, [.ref a, .ref b, .ref qa, .ref qu, .ref qb, .ref qh, .ref qm])), (qu, .inl (cJ, 8, .inr (.inl (f8 (-65536) (-0) (-65536) (-36195) (-65536) 36195 (-65536) 0))))] H := hP
    have hD : va_D A [(hm, .inr (1, [.ref a, .ref b, .ref qa, .ref qu, .ref qb, .ref qh, .ref qm])), (qu, .inl (cJ, 8, .inr (.inl (f8 (-65536) (-0) (-65536) (-36195) (-65536) 36195 (-65536) 0))))] := hD
    refine lv_iinc (v := 4) (lv' := [(4, .int 4), (5, .long (-36195)), (3, .int 1), (0, .ref hm), (1, .long k)]) hx hb d_M_quarter_132 hl (k := 1) rfl (by first | exact nI_add _ 2 | rfl | decide) (by decide) rfl (fun ls hl => ?_)
    refine lv_goto (tgt := 88) hx hb d_M_quarter_135 (by decide) ?_
    refine lv_iload hx hb d_M_quarter_88 (lv_at hl 0 rfl) ?_
    refine lv_bipush (v := 8) hx hb d_M_quarter_90 (by decide) ?_
    refine bn_ge (a1 := 4) (b1 := 8) (tgt := 138) hx hb (by omega) (by omega) d_M_quarter_92 (by decide) (fun c_23 => ?_) (fun c_23 => ?_)
    · exact absurd c_23 (by decide)
    refine lv_aload_n hx hb d_M_quarter_95 rfl (lv_at hl 3 rfl) ?_
    refine va_get (D := D) (ci := 1) (v := .ref qu) (C := R_M) (T := T_M) (N := 7) hx hb hts (ui_M _) hown hK hP 0 rfl rfl 3 (by decide) (hts _ (gwc gw_512)) (fun _ h9 => h9) rfl d_M_quarter_96 ?_
    refine lv_iload hx hb d_M_quarter_99 (lv_at hl 0 rfl) ?_
    refine ld_l hx hb hK hP 1 2 rfl rfl 4 (by omega) (by omega) d_M_quarter_101 ?_
    refine tp_l (-65536) (rfl) ?_
    refine lv_lstore (lv' := [(5, .long (-65536)), (4, .int 4), (3, .int 1), (0, .ref hm), (1, .long k)]) hx hb d_M_quarter_102 hl (by decide) rfl (fun ls hl => ?_)
    refine lv_aload_n hx hb d_M_quarter_104 rfl (lv_at hl 3 rfl) ?_
    refine va_get (D := D) (ci := 1) (v := .ref qu) (C := R_M) (T := T_M) (N := 7) hx hb hts (ui_M _) hown hK hP 0 rfl rfl 3 (by decide) (hts _ (gwc gw_512)) (fun _ h9 => h9) rfl d_M_quarter_105 ?_
    refine lv_iload hx hb d_M_quarter_108 (lv_at hl 1 rfl) ?_
    refine lv_aload_n hx hb d_M_quarter_110 rfl (lv_at hl 3 rfl) ?_
    refine va_get (D := D) (ci := 1) (v := .ref qu) (C := R_M) (T := T_M) (N := 7) hx hb hts (ui_M _) hown hK hP 0 rfl rfl 3 (by decide) (hts _ (gwc gw_512)) (fun _ h9 => h9) rfl d_M_quarter_111 ?_
    refine lv_iload hx hb d_M_quarter_114 (lv_at hl 1 rfl) ?_
    refine lv_iconst (v := 1) hx hb d_M_quarter_116 (by decide) ?_
    refine lv_iadd hx hb d_M_quarter_117 ?_
    refine tp_i (5) (by decide) ?_
    refine ld_l hx hb hK hP 1 2 rfl rfl 5 (by omega) (by omega) d_M_quarter_118 ?_
    refine tp_l (36195) (rfl) ?_
    refine lv_lneg hx hb d_M_quarter_119 ?_
    refine sf_l (f8 (-65536) (-0) (-65536) (-36195) (-36195) 36195 (-65536) 0) hx hb hK hP hD hS 1 2 rfl rfl 4 f8_4 (by decide) (by decide) d_M_quarter_120 (fun H locs hP hD hS => ?_)
    have hP : va_P D cl [(hm, .inr (1, [.ref a, .ref b, .ref qa, .ref qu, .ref qb, .ref qh, .ref qm])), (qu, .inl (cJ, 8, .inr (.inl (f8 (-65536) (-0) (-65536) (-36195) (-36195) 36195 (-65536) 0))))] H := hP
    have hD : va_D A [(hm, .inr (1, [.ref a, .ref b, .ref qa, .ref qu, .ref qb, .ref qh, .ref qm])), (qu, .inl (cJ, 8, .inr (.inl (f8 (-65536) (-0) (-65536) (-36195) (-36195) 36195 (-65536) 0))))] := hD
    refine lv_aload_n hx hb d_M_quarter_121 rfl (lv_at hl 3 rfl) ?_
    refine va_get (D := D) (ci := 1) (v := .ref qu) (C := R_M) (T := T_M) (N := 7) hx hb hts (ui_M _) hown hK hP 0 rfl rfl 3 (by decide) (hts _ (gwc gw_512)) (fun _ h9 => h9) rfl d_M_quarter_122 ?_
    refine lv_iload hx hb d_M_quarter_125 (lv_at hl 1 rfl) ?_
    refine lv_iconst (v := 1) hx hb d_M_quarter_127 (by decide) ?_
    refine lv_iadd hx hb d_M_quarter_128 ?_
    refine tp_i (5) (by decide) ?_
    refine lv_lload hx hb d_M_quarter_129 (lv_at hl 0 rfl) ?_
    refine sf_l (f8 (-65536) (-0) (-65536) (-36195) (-36195) (-65536) (-65536) 0) hx hb hK hP hD hS 1 2 rfl rfl 5 f8_5 (by decide) (by decide) d_M_quarter_131 (fun H locs hP hD hS => ?_)
    have hP : va_P D cl [(hm, .inr (1, [.ref a, .ref b, .ref qa, .ref qu, .ref qb, .ref qh, .ref qm])), (qu, .inl (cJ, 8, .inr (.inl (f8 (-65536) (-0) (-65536) (-36195) (-36195) (-65536) (-65536) 0))))] H := hP
    have hD : va_D A [(hm, .inr (1, [.ref a, .ref b, .ref qa, .ref qu, .ref qb, .ref qh, .ref qm])), (qu, .inl (cJ, 8, .inr (.inl (f8 (-65536) (-0) (-65536) (-36195) (-36195) (-65536) (-65536) 0))))] := hD
    refine lv_iinc (v := 6) (lv' := [(4, .int 6), (5, .long (-65536)), (3, .int 1), (0, .ref hm), (1, .long k)]) hx hb d_M_quarter_132 hl (k := 1) rfl (by first | exact nI_add _ 2 | rfl | decide) (by decide) rfl (fun ls hl => ?_)
    refine lv_goto (tgt := 88) hx hb d_M_quarter_135 (by decide) ?_
    refine lv_iload hx hb d_M_quarter_88 (lv_at hl 0 rfl) ?_
    refine lv_bipush (v := 8) hx hb d_M_quarter_90 (by decide) ?_
    refine bn_ge (a1 := 6) (b1 := 8) (tgt := 138) hx hb (by omega) (by omega) d_M_quarter_92 (by decide) (fun c_24 => ?_) (fun c_24 => ?_)
    · exact absurd c_24 (by decide)
    refine lv_aload_n hx hb d_M_quarter_95 rfl (lv_at hl 3 rfl) ?_
    refine va_get (D := D) (ci := 1) (v := .ref qu) (C := R_M) (T := T_M) (N := 7) hx hb hts (ui_M _) hown hK hP 0 rfl rfl 3 (by decide) (hts _ (gwc gw_512)) (fun _ h9 => h9) rfl d_M_quarter_96 ?_
    refine lv_iload hx hb d_M_quarter_99 (lv_at hl 0 rfl) ?_
    refine ld_l hx hb hK hP 1 2 rfl rfl 6 (by omega) (by omega) d_M_quarter_101 ?_
    refine tp_l (-65536) (rfl) ?_
    refine lv_lstore (lv' := [(5, .long (-65536)), (4, .int 6), (3, .int 1), (0, .ref hm), (1, .long k)]) hx hb d_M_quarter_102 hl (by decide) rfl (fun ls hl => ?_)
    refine lv_aload_n hx hb d_M_quarter_104 rfl (lv_at hl 3 rfl) ?_
    refine va_get (D := D) (ci := 1) (v := .ref qu) (C := R_M) (T := T_M) (N := 7) hx hb hts (ui_M _) hown hK hP 0 rfl rfl 3 (by decide) (hts _ (gwc gw_512)) (fun _ h9 => h9) rfl d_M_quarter_105 ?_
    refine lv_iload hx hb d_M_quarter_108 (lv_at hl 1 rfl) ?_
    refine lv_aload_n hx hb d_M_quarter_110 rfl (lv_at hl 3 rfl) ?_
    refine va_get (D := D) (ci := 1) (v := .ref qu) (C := R_M) (T := T_M) (N := 7) hx hb hts (ui_M _) hown hK hP 0 rfl rfl 3 (by decide) (hts _ (gwc gw_512)) (fun _ h9 => h9) rfl d_M_quarter_111 ?_
    refine lv_iload hx hb d_M_quarter_114 (lv_at hl 1 rfl) ?_
    refine lv_iconst (v := 1) hx hb d_M_quarter_116 (by decide) ?_
    refine lv_iadd hx hb d_M_quarter_117 ?_
    refine tp_i (7) (by decide) ?_
    refine ld_l hx hb hK hP 1 2 rfl rfl 7 (by omega) (by omega) d_M_quarter_118 ?_
    refine tp_l (0) (rfl) ?_
    refine lv_lneg hx hb d_M_quarter_119 ?_
    refine sf_l (f8 (-65536) (-0) (-65536) (-36195) (-36195) (-65536) (-0) 0) hx hb hK hP hD hS 1 2 rfl rfl 6 f8_6 (by decide) (by decide) d_M_quarter_120 (fun H locs hP hD hS => ?_)
    have hP : va_P D cl [(hm, .inr (1, [.ref a, .ref b, .ref qa, .ref qu, .ref qb, .ref qh, .ref qm])), (qu, .inl (cJ, 8, .inr (.inl (f8 (-65536) (-0) (-65536) (-36195) (-36195) (-65536) (-0) 0))))] H := hP
    have hD : va_D A [(hm, .inr (1, [.ref a, .ref b, .ref qa, .ref qu, .ref qb, .ref qh, .ref qm])), (qu, .inl (cJ, 8, .inr (.inl (f8 (-65536) (-0) (-65536) (-36195) (-36195) (-65536) (-0) 0))))] := hD
    refine lv_aload_n hx hb d_M_quarter_121 rfl (lv_at hl 3 rfl) ?_
    refine va_get (D := D) (ci := 1) (v := .ref qu) (C := R_M) (T := T_M) (N := 7) hx hb hts (ui_M _) hown hK hP 0 rfl rfl 3 (by decide) (hts _ (gwc gw_512)) (fun _ h9 => h9) rfl d_M_quarter_122 ?_
    refine lv_iload hx hb d_M_quarter_125 (lv_at hl 1 rfl) ?_
    refine lv_iconst (v := 1) hx hb d_M_quarter_127 (by decide) ?_
    refine lv_iadd hx hb d_M_quarter_128 ?_
    refine tp_i (7) (by decide) ?_
    refine lv_lload hx hb d_M_quarter_129 (lv_at hl 0 rfl) ?_
    refine sf_l (f8 (-65536) (-0) (-65536) (-36195) (-36195) (-65536) (-0) (-65536)) hx hb hK hP hD hS 1 2 rfl rfl 7 f8_7 (by decide) (by decide) d_M_quarter_131 (fun H locs hP hD hS => ?_)
    have hP : va_P D cl [(hm, .inr (1, [.ref a, .ref b, .ref qa, .ref qu, .ref qb, .ref qh, .ref qm])), (qu, .inl (cJ, 8, .inr (.inl (f8 (-65536) (-0) (-65536) (-36195) (-36195) (-65536) (-0) (-65536)))))] H := hP
    have hD : va_D A [(hm, .inr (1, [.ref a, .ref b, .ref qa, .ref qu, .ref qb, .ref qh, .ref qm])), (qu, .inl (cJ, 8, .inr (.inl (f8 (-65536) (-0) (-65536) (-36195) (-36195) (-65536) (-0) (-65536)))))] := hD
    refine lv_iinc (v := 8) (lv' := [(4, .int 8), (5, .long (-65536)), (3, .int 1), (0, .ref hm), (1, .long k)]) hx hb d_M_quarter_132 hl (k := 1) rfl (by first | exact nI_add _ 2 | rfl | decide) (by decide) rfl (fun ls hl => ?_)
    refine lv_goto (tgt := 88) hx hb d_M_quarter_135 (by decide) ?_
    refine lv_iload hx hb d_M_quarter_88 (lv_at hl 0 rfl) ?_
    refine lv_bipush (v := 8) hx hb d_M_quarter_90 (by decide) ?_
    refine bn_ge (a1 := 8) (b1 := 8) (tgt := 138) hx hb (by omega) (by omega) d_M_quarter_92 (by decide) (fun c_25 => ?_) (fun c_25 => ?_)
    rotate_left
    · exact absurd c_25 (by decide)
    refine lv_iinc (v := 2) (lv' := [(3, .int 2), (4, .int 8), (5, .long (-65536)), (0, .ref hm), (1, .long k)]) hx hb d_M_quarter_138 hl (k := 2) rfl (by first | exact nI_add _ 1 | rfl | decide) (by decide) rfl (fun ls hl => ?_)
    refine lv_goto (tgt := 72) hx hb d_M_quarter_141 (by decide) ?_
    refine lv_iload_n hx hb d_M_quarter_72 rfl (lv_at hl 0 rfl) ?_
    refine lv_i2l (v := 2) hx hb d_M_quarter_73 (by decide) ?_
    refine lv_lload_n hx hb d_M_quarter_74 rfl (lv_at hl 4 rfl) ?_
    refine lv_ldc2 (v := 4) hx hb hown (hts _ (gwc gw_641)) d_M_quarter_75 ?_
    refine ct_callS (av := [.long k, .long 4]) (rest := [.long 2]) (wr := [(hm, .inr (1, [.ref a, .ref b, .ref qa, .ref qu, .ref qb, .ref qh, .ref qm])), (qu, .inl (cJ, 8, .inr (.inl (f8 (-65536) (-0) (-65536) (-36195) (-36195) (-65536) (-0) (-65536)))))]) (n := 2) (c_floorMod l D cI cB cJ qQ  k 4 (by decide)) hx hb hml hown hts (amb_ok qQ) hK hP hD hS hA hM (gi_S gw_629 gw_250 gw_35 gw_251) rfl (by decide +kernel) ⟨by omega, by omega⟩ [] [0, 1] rfl rfl rfl rfl (by decide) rfl hl.1 rfl (Nat.le_of_ble_eq_true rfl) d_M_quarter_78 ⟨by omega, by omega⟩ (fun u_26 H locs hok hP hD hS => ?_)
    have hP : va_P D cl [(hm, .inr (1, [.ref a, .ref b, .ref qa, .ref qu, .ref qb, .ref qh, .ref qm])), (qu, .inl (cJ, 8, .inr (.inl (f8 (-65536) (-0) (-65536) (-36195) (-36195) (-65536) (-0) (-65536)))))] H := hP
    have hD : va_D A [(hm, .inr (1, [.ref a, .ref b, .ref qa, .ref qu, .ref qb, .ref qh, .ref qm])), (qu, .inl (cJ, 8, .inr (.inl (f8 (-65536) (-0) (-65536) (-36195) (-36195) (-65536) (-0) (-65536)))))] := hD
    refine W.eq (g2 := F0 m 81 ls [.long (fmd k 4), .long 2]) rfl ?_
    refine tp_l (2) (h_) ?_
    refine W.lcmp hx hb d_M_quarter_81 ?_
    refine lc_ge (tgt := 144) hx hb d_M_quarter_82 (by decide) (fun c_27 => ?_) (fun c_27 => ?_)
    rotate_left
    · exact absurd c_27 (by decide)
    exact ct_retv hQ hx hb hr hlocks hP hD hS (-65536, -0, -65536, -36195, -36195, -65536, -0, -65536) [(hm, .inr (1, [.ref a, .ref b, .ref qa, .ref qu, .ref qb, .ref qh, .ref qm])), (qu, .inl (cJ, 8, .inr (.inl (f8 (-65536) (-0) (-65536) (-36195) (-36195) (-65536) (-0) (-65536)))))] [0, 1] (rfl) (by rw [h_]; first | exact rfl | (dsimp only; decide)) (rfl) rfl rfl (by omega) (by omega) d_M_quarter_144
  · skip
    refine lv_aload_n hx hb d_M_quarter_0 rfl (lv_at hl 0 rfl) ?_
    refine va_get (D := D) (ci := 1) (v := .ref qu) (C := R_M) (T := T_M) (N := 7) hx hb hts (ui_M _) hown hK hP 0 rfl rfl 3 (by decide) (hts _ (gwc gw_512)) (fun _ h9 => h9) rfl d_M_quarter_1 ?_
    refine lv_iconst (v := 0) hx hb d_M_quarter_4 (by decide) ?_
    refine lv_ldc2 (v := 65536) hx hb hown (hts _ (gwc gw_635)) d_M_quarter_5 ?_
    refine sf_l (f8 65536 u1 u2 u3 u4 u5 u6 u7) hx hb hK hP hD hS 1 2 rfl rfl 0 f8_0 (by decide) (by decide) d_M_quarter_8 (fun H locs hP hD hS => ?_)
    have hP : va_P D cl [(hm, .inr (1, [.ref a, .ref b, .ref qa, .ref qu, .ref qb, .ref qh, .ref qm])), (qu, .inl (cJ, 8, .inr (.inl (f8 65536 u1 u2 u3 u4 u5 u6 u7))))] H := hP
    have hD : va_D A [(hm, .inr (1, [.ref a, .ref b, .ref qa, .ref qu, .ref qb, .ref qh, .ref qm])), (qu, .inl (cJ, 8, .inr (.inl (f8 65536 u1 u2 u3 u4 u5 u6 u7))))] := hD
    refine lv_aload_n hx hb d_M_quarter_9 rfl (lv_at hl 0 rfl) ?_
    refine va_get (D := D) (ci := 1) (v := .ref qu) (C := R_M) (T := T_M) (N := 7) hx hb hts (ui_M _) hown hK hP 0 rfl rfl 3 (by decide) (hts _ (gwc gw_512)) (fun _ h9 => h9) rfl d_M_quarter_10 ?_
    refine lv_iconst (v := 1) hx hb d_M_quarter_13 (by decide) ?_
    refine lv_lconst (v := 0) hx hb d_M_quarter_14 (by decide) ?_
    refine sf_l (f8 65536 0 u2 u3 u4 u5 u6 u7) hx hb hK hP hD hS 1 2 rfl rfl 1 f8_1 (by decide) (by decide) d_M_quarter_15 (fun H locs hP hD hS => ?_)
    have hP : va_P D cl [(hm, .inr (1, [.ref a, .ref b, .ref qa, .ref qu, .ref qb, .ref qh, .ref qm])), (qu, .inl (cJ, 8, .inr (.inl (f8 65536 0 u2 u3 u4 u5 u6 u7))))] H := hP
    have hD : va_D A [(hm, .inr (1, [.ref a, .ref b, .ref qa, .ref qu, .ref qb, .ref qh, .ref qm])), (qu, .inl (cJ, 8, .inr (.inl (f8 65536 0 u2 u3 u4 u5 u6 u7))))] := hD
    refine lv_aload_n hx hb d_M_quarter_16 rfl (lv_at hl 0 rfl) ?_
    refine va_get (D := D) (ci := 1) (v := .ref qu) (C := R_M) (T := T_M) (N := 7) hx hb hts (ui_M _) hown hK hP 0 rfl rfl 3 (by decide) (hts _ (gwc gw_512)) (fun _ h9 => h9) rfl d_M_quarter_17 ?_
    refine lv_iconst (v := 2) hx hb d_M_quarter_20 (by decide) ?_
    refine lv_ldc2 (v := 65536) hx hb hown (hts _ (gwc gw_635)) d_M_quarter_21 ?_
    refine sf_l (f8 65536 0 65536 u3 u4 u5 u6 u7) hx hb hK hP hD hS 1 2 rfl rfl 2 f8_2 (by decide) (by decide) d_M_quarter_24 (fun H locs hP hD hS => ?_)
    have hP : va_P D cl [(hm, .inr (1, [.ref a, .ref b, .ref qa, .ref qu, .ref qb, .ref qh, .ref qm])), (qu, .inl (cJ, 8, .inr (.inl (f8 65536 0 65536 u3 u4 u5 u6 u7))))] H := hP
    have hD : va_D A [(hm, .inr (1, [.ref a, .ref b, .ref qa, .ref qu, .ref qb, .ref qh, .ref qm])), (qu, .inl (cJ, 8, .inr (.inl (f8 65536 0 65536 u3 u4 u5 u6 u7))))] := hD
    refine lv_aload_n hx hb d_M_quarter_25 rfl (lv_at hl 0 rfl) ?_
    refine va_get (D := D) (ci := 1) (v := .ref qu) (C := R_M) (T := T_M) (N := 7) hx hb hts (ui_M _) hown hK hP 0 rfl rfl 3 (by decide) (hts _ (gwc gw_512)) (fun _ h9 => h9) rfl d_M_quarter_26 ?_
    refine lv_iconst (v := 3) hx hb d_M_quarter_29 (by decide) ?_
    refine lv_ldc2 (v := 36195) hx hb hown (hts _ (gwc gw_640)) d_M_quarter_30 ?_
    refine sf_l (f8 65536 0 65536 36195 u4 u5 u6 u7) hx hb hK hP hD hS 1 2 rfl rfl 3 f8_3 (by decide) (by decide) d_M_quarter_33 (fun H locs hP hD hS => ?_)
    have hP : va_P D cl [(hm, .inr (1, [.ref a, .ref b, .ref qa, .ref qu, .ref qb, .ref qh, .ref qm])), (qu, .inl (cJ, 8, .inr (.inl (f8 65536 0 65536 36195 u4 u5 u6 u7))))] H := hP
    have hD : va_D A [(hm, .inr (1, [.ref a, .ref b, .ref qa, .ref qu, .ref qb, .ref qh, .ref qm])), (qu, .inl (cJ, 8, .inr (.inl (f8 65536 0 65536 36195 u4 u5 u6 u7))))] := hD
    refine lv_aload_n hx hb d_M_quarter_34 rfl (lv_at hl 0 rfl) ?_
    refine va_get (D := D) (ci := 1) (v := .ref qu) (C := R_M) (T := T_M) (N := 7) hx hb hts (ui_M _) hown hK hP 0 rfl rfl 3 (by decide) (hts _ (gwc gw_512)) (fun _ h9 => h9) rfl d_M_quarter_35 ?_
    refine lv_iconst (v := 4) hx hb d_M_quarter_38 (by decide) ?_
    refine lv_ldc2 (v := 36195) hx hb hown (hts _ (gwc gw_640)) d_M_quarter_39 ?_
    refine sf_l (f8 65536 0 65536 36195 36195 u5 u6 u7) hx hb hK hP hD hS 1 2 rfl rfl 4 f8_4 (by decide) (by decide) d_M_quarter_42 (fun H locs hP hD hS => ?_)
    have hP : va_P D cl [(hm, .inr (1, [.ref a, .ref b, .ref qa, .ref qu, .ref qb, .ref qh, .ref qm])), (qu, .inl (cJ, 8, .inr (.inl (f8 65536 0 65536 36195 36195 u5 u6 u7))))] H := hP
    have hD : va_D A [(hm, .inr (1, [.ref a, .ref b, .ref qa, .ref qu, .ref qb, .ref qh, .ref qm])), (qu, .inl (cJ, 8, .inr (.inl (f8 65536 0 65536 36195 36195 u5 u6 u7))))] := hD
    refine lv_aload_n hx hb d_M_quarter_43 rfl (lv_at hl 0 rfl) ?_
    refine va_get (D := D) (ci := 1) (v := .ref qu) (C := R_M) (T := T_M) (N := 7) hx hb hts (ui_M _) hown hK hP 0 rfl rfl 3 (by decide) (hts _ (gwc gw_512)) (fun _ h9 => h9) rfl d_M_quarter_44 ?_
    refine lv_iconst (v := 5) hx hb d_M_quarter_47 (by decide) ?_
    refine lv_ldc2 (v := 65536) hx hb hown (hts _ (gwc gw_635)) d_M_quarter_48 ?_
    refine sf_l (f8 65536 0 65536 36195 36195 65536 u6 u7) hx hb hK hP hD hS 1 2 rfl rfl 5 f8_5 (by decide) (by decide) d_M_quarter_51 (fun H locs hP hD hS => ?_)
    have hP : va_P D cl [(hm, .inr (1, [.ref a, .ref b, .ref qa, .ref qu, .ref qb, .ref qh, .ref qm])), (qu, .inl (cJ, 8, .inr (.inl (f8 65536 0 65536 36195 36195 65536 u6 u7))))] H := hP
    have hD : va_D A [(hm, .inr (1, [.ref a, .ref b, .ref qa, .ref qu, .ref qb, .ref qh, .ref qm])), (qu, .inl (cJ, 8, .inr (.inl (f8 65536 0 65536 36195 36195 65536 u6 u7))))] := hD
    refine lv_aload_n hx hb d_M_quarter_52 rfl (lv_at hl 0 rfl) ?_
    refine va_get (D := D) (ci := 1) (v := .ref qu) (C := R_M) (T := T_M) (N := 7) hx hb hts (ui_M _) hown hK hP 0 rfl rfl 3 (by decide) (hts _ (gwc gw_512)) (fun _ h9 => h9) rfl d_M_quarter_53 ?_
    refine lv_bipush (v := 6) hx hb d_M_quarter_56 (by decide) ?_
    refine lv_lconst (v := 0) hx hb d_M_quarter_58 (by decide) ?_
    refine sf_l (f8 65536 0 65536 36195 36195 65536 0 u7) hx hb hK hP hD hS 1 2 rfl rfl 6 f8_6 (by decide) (by decide) d_M_quarter_59 (fun H locs hP hD hS => ?_)
    have hP : va_P D cl [(hm, .inr (1, [.ref a, .ref b, .ref qa, .ref qu, .ref qb, .ref qh, .ref qm])), (qu, .inl (cJ, 8, .inr (.inl (f8 65536 0 65536 36195 36195 65536 0 u7))))] H := hP
    have hD : va_D A [(hm, .inr (1, [.ref a, .ref b, .ref qa, .ref qu, .ref qb, .ref qh, .ref qm])), (qu, .inl (cJ, 8, .inr (.inl (f8 65536 0 65536 36195 36195 65536 0 u7))))] := hD
    refine lv_aload_n hx hb d_M_quarter_60 rfl (lv_at hl 0 rfl) ?_
    refine va_get (D := D) (ci := 1) (v := .ref qu) (C := R_M) (T := T_M) (N := 7) hx hb hts (ui_M _) hown hK hP 0 rfl rfl 3 (by decide) (hts _ (gwc gw_512)) (fun _ h9 => h9) rfl d_M_quarter_61 ?_
    refine lv_bipush (v := 7) hx hb d_M_quarter_64 (by decide) ?_
    refine lv_ldc2 (v := 65536) hx hb hown (hts _ (gwc gw_635)) d_M_quarter_66 ?_
    refine sf_l (f8 65536 0 65536 36195 36195 65536 0 65536) hx hb hK hP hD hS 1 2 rfl rfl 7 f8_7 (by decide) (by decide) d_M_quarter_69 (fun H locs hP hD hS => ?_)
    have hP : va_P D cl [(hm, .inr (1, [.ref a, .ref b, .ref qa, .ref qu, .ref qb, .ref qh, .ref qm])), (qu, .inl (cJ, 8, .inr (.inl (f8 65536 0 65536 36195 36195 65536 0 65536))))] H := hP
    have hD : va_D A [(hm, .inr (1, [.ref a, .ref b, .ref qa, .ref qu, .ref qb, .ref qh, .ref qm])), (qu, .inl (cJ, 8, .inr (.inl (f8 65536 0 65536 36195 36195 65536 0 65536))))] := hD
    refine lv_iconst (v := 0) hx hb d_M_quarter_70 (by decide) ?_
    refine lv_istore_n (lv' := [(3, .int 0), (0, .ref hm), (1, .long k)]) hx hb d_M_quarter_71 rfl hl (by decide) rfl (fun ls hl => ?_)
    refine lv_iload_n hx hb d_M_quarter_72 rfl (lv_at hl 0 rfl) ?_
    refine lv_i2l (v := 0) hx hb d_M_quarter_73 (by decide) ?_
    refine lv_lload_n hx hb d_M_quarter_74 rfl (lv_at hl 2 rfl) ?_
    refine lv_ldc2 (v := 4) hx hb hown (hts _ (gwc gw_641)) d_M_quarter_75 ?_
    refine ct_callS (av := [.long k, .long 4]) (rest := [.long 0]) (wr := [(hm, .inr (1, [.ref a, .ref b, .ref qa, .ref qu, .ref qb, .ref qh, .ref qm])), (qu, .inl (cJ, 8, .inr (.inl (f8 65536 0 65536 36195 36195 65536 0 65536))))]) (n := 2) (c_floorMod l D cI cB cJ qQ  k 4 (by decide)) hx hb hml hown hts (amb_ok qQ) hK hP hD hS hA hM (gi_S gw_629 gw_250 gw_35 gw_251) rfl (by decide +kernel) ⟨by omega, by omega⟩ [] [0, 1] rfl rfl rfl rfl (by decide) rfl hl.1 rfl (Nat.le_of_ble_eq_true rfl) d_M_quarter_78 ⟨by omega, by omega⟩ (fun u_28 H locs hok hP hD hS => ?_)
    have hP : va_P D cl [(hm, .inr (1, [.ref a, .ref b, .ref qa, .ref qu, .ref qb, .ref qh, .ref qm])), (qu, .inl (cJ, 8, .inr (.inl (f8 65536 0 65536 36195 36195 65536 0 65536))))] H := hP
    have hD : va_D A [(hm, .inr (1, [.ref a, .ref b, .ref qa, .ref qu, .ref qb, .ref qh, .ref qm])), (qu, .inl (cJ, 8, .inr (.inl (f8 65536 0 65536 36195 36195 65536 0 65536))))] := hD
    refine W.eq (g2 := F0 m 81 ls [.long (fmd k 4), .long 0]) rfl ?_
    refine tp_l (3) (h_) ?_
    refine W.lcmp hx hb d_M_quarter_81 ?_
    refine lc_ge (tgt := 144) hx hb d_M_quarter_82 (by decide) (fun c_29 => ?_) (fun c_29 => ?_)
    · exact absurd c_29 (by decide)
    refine lv_iconst (v := 0) hx hb d_M_quarter_85 (by decide) ?_
    refine lv_istore (lv' := [(4, .int 0), (3, .int 0), (0, .ref hm), (1, .long k)]) hx hb d_M_quarter_86 hl (by decide) rfl (fun ls hl => ?_)
    refine lv_iload hx hb d_M_quarter_88 (lv_at hl 0 rfl) ?_
    refine lv_bipush (v := 8) hx hb d_M_quarter_90 (by decide) ?_
    refine bn_ge (a1 := 0) (b1 := 8) (tgt := 138) hx hb (by omega) (by omega) d_M_quarter_92 (by decide) (fun c_30 => ?_) (fun c_30 => ?_)
    · exact absurd c_30 (by decide)
    refine lv_aload_n hx hb d_M_quarter_95 rfl (lv_at hl 2 rfl) ?_
    refine va_get (D := D) (ci := 1) (v := .ref qu) (C := R_M) (T := T_M) (N := 7) hx hb hts (ui_M _) hown hK hP 0 rfl rfl 3 (by decide) (hts _ (gwc gw_512)) (fun _ h9 => h9) rfl d_M_quarter_96 ?_
    refine lv_iload hx hb d_M_quarter_99 (lv_at hl 0 rfl) ?_
    refine ld_l hx hb hK hP 1 2 rfl rfl 0 (by omega) (by omega) d_M_quarter_101 ?_
    refine tp_l (65536) (rfl) ?_
    refine lv_lstore (lv' := [(5, .long 65536), (4, .int 0), (3, .int 0), (0, .ref hm), (1, .long k)]) hx hb d_M_quarter_102 hl (by decide) rfl (fun ls hl => ?_)
    refine lv_aload_n hx hb d_M_quarter_104 rfl (lv_at hl 3 rfl) ?_
    refine va_get (D := D) (ci := 1) (v := .ref qu) (C := R_M) (T := T_M) (N := 7) hx hb hts (ui_M _) hown hK hP 0 rfl rfl 3 (by decide) (hts _ (gwc gw_512)) (fun _ h9 => h9) rfl d_M_quarter_105 ?_
    refine lv_iload hx hb d_M_quarter_108 (lv_at hl 1 rfl) ?_
    refine lv_aload_n hx hb d_M_quarter_110 rfl (lv_at hl 3 rfl) ?_
    refine va_get (D := D) (ci := 1) (v := .ref qu) (C := R_M) (T := T_M) (N := 7) hx hb hts (ui_M _) hown hK hP 0 rfl rfl 3 (by decide) (hts _ (gwc gw_512)) (fun _ h9 => h9) rfl d_M_quarter_111 ?_
    refine lv_iload hx hb d_M_quarter_114 (lv_at hl 1 rfl) ?_
    refine lv_iconst (v := 1) hx hb d_M_quarter_116 (by decide) ?_
    refine lv_iadd hx hb d_M_quarter_117 ?_
    refine tp_i (1) (by decide) ?_
    refine ld_l hx hb hK hP 1 2 rfl rfl 1 (by omega) (by omega) d_M_quarter_118 ?_
    refine tp_l (0) (rfl) ?_
    refine lv_lneg hx hb d_M_quarter_119 ?_
    refine sf_l (f8 (-0) 0 65536 36195 36195 65536 0 65536) hx hb hK hP hD hS 1 2 rfl rfl 0 f8_0 (by decide) (by decide) d_M_quarter_120 (fun H locs hP hD hS => ?_)
    have hP : va_P D cl [(hm, .inr (1, [.ref a, .ref b, .ref qa, .ref qu, .ref qb, .ref qh, .ref qm])), (qu, .inl (cJ, 8, .inr (.inl (f8 (-0) 0 65536 36195 36195 65536 0 65536))))] H := hP
    have hD : va_D A [(hm, .inr (1, [.ref a, .ref b, .ref qa, .ref qu, .ref qb, .ref qh, .ref qm])), (qu, .inl (cJ, 8, .inr (.inl (f8 (-0) 0 65536 36195 36195 65536 0 65536))))] := hD
    refine lv_aload_n hx hb d_M_quarter_121 rfl (lv_at hl 3 rfl) ?_
    refine va_get (D := D) (ci := 1) (v := .ref qu) (C := R_M) (T := T_M) (N := 7) hx hb hts (ui_M _) hown hK hP 0 rfl rfl 3 (by decide) (hts _ (gwc gw_512)) (fun _ h9 => h9) rfl d_M_quarter_122 ?_
    refine lv_iload hx hb d_M_quarter_125 (lv_at hl 1 rfl) ?_
    refine lv_iconst (v := 1) hx hb d_M_quarter_127 (by decide) ?_
    refine lv_iadd hx hb d_M_quarter_128 ?_
    refine tp_i (1) (by decide) ?_
    refine lv_lload hx hb d_M_quarter_129 (lv_at hl 0 rfl) ?_
    refine sf_l (f8 (-0) 65536 65536 36195 36195 65536 0 65536) hx hb hK hP hD hS 1 2 rfl rfl 1 f8_1 (by decide) (by decide) d_M_quarter_131 (fun H locs hP hD hS => ?_)
    have hP : va_P D cl [(hm, .inr (1, [.ref a, .ref b, .ref qa, .ref qu, .ref qb, .ref qh, .ref qm])), (qu, .inl (cJ, 8, .inr (.inl (f8 (-0) 65536 65536 36195 36195 65536 0 65536))))] H := hP
    have hD : va_D A [(hm, .inr (1, [.ref a, .ref b, .ref qa, .ref qu, .ref qb, .ref qh, .ref qm])), (qu, .inl (cJ, 8, .inr (.inl (f8 (-0) 65536 65536 36195 36195 65536 0 65536))))] := hD
    refine lv_iinc (v := 2) (lv' := [(4, .int 2), (5, .long 65536), (3, .int 0), (0, .ref hm), (1, .long k)]) hx hb d_M_quarter_132 hl (k := 1) rfl (by first | exact nI_add _ 2 | rfl | decide) (by decide) rfl (fun ls hl => ?_)
    refine lv_goto (tgt := 88) hx hb d_M_quarter_135 (by decide) ?_
    refine lv_iload hx hb d_M_quarter_88 (lv_at hl 0 rfl) ?_
    refine lv_bipush (v := 8) hx hb d_M_quarter_90 (by decide) ?_
    refine bn_ge (a1 := 2) (b1 := 8) (tgt := 138) hx hb (by omega) (by omega) d_M_quarter_92 (by decide) (fun c_31 => ?_) (fun c_31 => ?_)
    · exact absurd c_31 (by decide)
    refine lv_aload_n hx hb d_M_quarter_95 rfl (lv_at hl 3 rfl) ?_
    refine va_get (D := D) (ci := 1) (v := .ref qu) (C := R_M) (T := T_M) (N := 7) hx hb hts (ui_M _) hown hK hP 0 rfl rfl 3 (by decide) (hts _ (gwc gw_512)) (fun _ h9 => h9) rfl d_M_quarter_96 ?_
    refine lv_iload hx hb d_M_quarter_99 (lv_at hl 0 rfl) ?_
    refine ld_l hx hb hK hP 1 2 rfl rfl 2 (by omega) (by omega) d_M_quarter_101 ?_
    refine tp_l (65536) (rfl) ?_
    refine lv_lstore (lv' := [(5, .long 65536), (4, .int 2), (3, .int 0), (0, .ref hm), (1, .long k)]) hx hb d_M_quarter_102 hl (by decide) rfl (fun ls hl => ?_)
    refine lv_aload_n hx hb d_M_quarter_104 rfl (lv_at hl 3 rfl) ?_
    refine va_get (D := D) (ci := 1) (v := .ref qu) (C := R_M) (T := T_M) (N := 7) hx hb hts (ui_M _) hown hK hP 0 rfl rfl 3 (by decide) (hts _ (gwc gw_512)) (fun _ h9 => h9) rfl d_M_quarter_105 ?_
    refine lv_iload hx hb d_M_quarter_108 (lv_at hl 1 rfl) ?_
    refine lv_aload_n hx hb d_M_quarter_110 rfl (lv_at hl 3 rfl) ?_
    refine va_get (D := D) (ci := 1) (v := .ref qu) (C := R_M) (T := T_M) (N := 7) hx hb hts (ui_M _) hown hK hP 0 rfl rfl 3 (by decide) (hts _ (gwc gw_512)) (fun _ h9 => h9) rfl d_M_quarter_111 ?_
    refine lv_iload hx hb d_M_quarter_114 (lv_at hl 1 rfl) ?_
    refine lv_iconst (v := 1) hx hb d_M_quarter_116 (by decide) ?_
    refine lv_iadd hx hb d_M_quarter_117 ?_
    refine tp_i (3) (by decide) ?_
    refine ld_l hx hb hK hP 1 2 rfl rfl 3 (by omega) (by omega) d_M_quarter_118 ?_
    refine tp_l (36195) (rfl) ?_
    refine lv_lneg hx hb d_M_quarter_119 ?_
    refine sf_l (f8 (-0) 65536 (-36195) 36195 36195 65536 0 65536) hx hb hK hP hD hS 1 2 rfl rfl 2 f8_2 (by decide) (by decide) d_M_quarter_120 (fun H locs hP hD hS => ?_)
    have hP : va_P D cl [(hm, .inr (1, [.ref a, .ref b, .ref qa, .ref qu, .ref qb, .ref qh, .ref qm])), (qu, .inl (cJ, 8, .inr (.inl (f8 (-0) 65536 (-36195) 36195 36195 65536 0 65536))))] H := hP
    have hD : va_D A [(hm, .inr (1, [.ref a, .ref b, .ref qa, .ref qu, .ref qb, .ref qh, .ref qm])), (qu, .inl (cJ, 8, .inr (.inl (f8 (-0) 65536 (-36195) 36195 36195 65536 0 65536))))] := hD
    refine lv_aload_n hx hb d_M_quarter_121 rfl (lv_at hl 3 rfl) ?_
    refine va_get (D := D) (ci := 1) (v := .ref qu) (C := R_M) (T := T_M) (N := 7) hx hb hts (ui_M _) hown hK hP 0 rfl rfl 3 (by decide) (hts _ (gwc gw_512)) (fun _ h9 => h9) rfl d_M_quarter_122 ?_
    refine lv_iload hx hb d_M_quarter_125 (lv_at hl 1 rfl) ?_
    refine lv_iconst (v := 1) hx hb d_M_quarter_127 (by decide) ?_
    refine lv_iadd hx hb d_M_quarter_128 ?_
    refine tp_i (3) (by decide) ?_
    refine lv_lload hx hb d_M_quarter_129 (lv_at hl 0 rfl) ?_
    refine sf_l (f8 (-0) 65536 (-36195) 65536 36195 65536 0 65536) hx hb hK hP hD hS 1 2 rfl rfl 3 f8_3 (by decide) (by decide) d_M_quarter_131 (fun H locs hP hD hS => ?_)
    have hP : va_P D cl [(hm, .inr (1, [.ref a, .ref b, .ref qa, .ref qu, .ref qb, .ref qh, .ref qm])), (qu, .inl (cJ, 8, .inr (.inl (f8 (-0) 65536 (-36195) 65536 36195 65536 0 65536))))] H := hP
    have hD : va_D A [(hm, .inr (1, [.ref a, .ref b, .ref qa, .ref qu, .ref qb, .ref qh, .ref qm])), (qu, .inl (cJ, 8, .inr (.inl (f8 (-0) 65536 (-36195) 65536 36195 65536 0 65536))))] := hD
    refine lv_iinc (v := 4) (lv' := [(4, .int 4), (5, .long 65536), (3, .int 0), (0, .ref hm), (1, .long k)]) hx hb d_M_quarter_132 hl (k := 1) rfl (by first | exact nI_add _ 2 | rfl | decide) (by decide) rfl (fun ls hl => ?_)
    refine lv_goto (tgt := 88) hx hb d_M_quarter_135 (by decide) ?_
    refine lv_iload hx hb d_M_quarter_88 (lv_at hl 0 rfl) ?_
    refine lv_bipush (v := 8) hx hb d_M_quarter_90 (by decide) ?_
    refine bn_ge (a1 := 4) (b1 := 8) (tgt := 138) hx hb (by omega) (by omega) d_M_quarter_92 (by decide) (fun c_32 => ?_) (fun c_32 => ?_)
    · exact absurd c_32 (by decide)
    refine lv_aload_n hx hb d_M_quarter_95 rfl (lv_at hl 3 rfl) ?_
    refine va_get (D := D) (ci := 1) (v := .ref qu) (C := R_M) (T := T_M) (N := 7) hx hb hts (ui_M _) hown hK hP 0 rfl rfl 3 (by decide) (hts _ (gwc gw_512)) (fun _ h9 => h9) rfl d_M_quarter_96 ?_
    refine lv_iload hx hb d_M_quarter_99 (lv_at hl 0 rfl) ?_
    refine ld_l hx hb hK hP 1 2 rfl rfl 4 (by omega) (by omega) d_M_quarter_101 ?_
    refine tp_l (36195) (rfl) ?_
    refine lv_lstore (lv' := [(5, .long 36195), (4, .int 4), (3, .int 0), (0, .ref hm), (1, .long k)]) hx hb d_M_quarter_102 hl (by decide) rfl (fun ls hl => ?_)
    refine lv_aload_n hx hb d_M_quarter_104 rfl (lv_at hl 3 rfl) ?_
    refine va_get (D := D) (ci := 1) (v := .ref qu) (C := R_M) (T := T_M) (N := 7) hx hb hts (ui_M _) hown hK hP 0 rfl rfl 3 (by decide) (hts _ (gwc gw_512)) (fun _ h9 => h9) rfl d_M_quarter_105 ?_
    refine lv_iload hx hb d_M_quarter_108 (lv_at hl 1 rfl) ?_
    refine lv_aload_n hx hb d_M_quarter_110 rfl (lv_at hl 3 rfl) ?_
    refine va_get (D := D) (ci := 1) (v := .ref qu) (C := R_M) (T := T_M) (N := 7) hx hb hts (ui_M _) hown hK hP 0 rfl rfl 3 (by decide) (hts _ (gwc gw_512)) (fun _ h9 => h9) rfl d_M_quarter_111 ?_
    refine lv_iload hx hb d_M_quarter_114 (lv_at hl 1 rfl) ?_
    refine lv_iconst (v := 1) hx hb d_M_quarter_116 (by decide) ?_
    refine lv_iadd hx hb d_M_quarter_117 ?_
    refine tp_i (5) (by decide) ?_
    refine ld_l hx hb hK hP 1 2 rfl rfl 5 (by omega) (by omega) d_M_quarter_118 ?_
    refine tp_l (65536) (rfl) ?_
    refine lv_lneg hx hb d_M_quarter_119 ?_
    refine sf_l (f8 (-0) 65536 (-36195) 65536 (-65536) 65536 0 65536) hx hb hK hP hD hS 1 2 rfl rfl 4 f8_4 (by decide) (by decide) d_M_quarter_120 (fun H locs hP hD hS => ?_)
    have hP : va_P D cl [(hm, .inr (1, [.ref a, .ref b, .ref qa, .ref qu, .ref qb, .ref qh, .ref qm])), (qu, .inl (cJ, 8, .inr (.inl (f8 (-0) 65536 (-36195) 65536 (-65536) 65536 0 65536))))] H := hP
    have hD : va_D A [(hm, .inr (1, [.ref a, .ref b, .ref qa, .ref qu, .ref qb, .ref qh, .ref qm])), (qu, .inl (cJ, 8, .inr (.inl (f8 (-0) 65536 (-36195) 65536 (-65536) 65536 0 65536))))] := hD
    refine lv_aload_n hx hb d_M_quarter_121 rfl (lv_at hl 3 rfl) ?_
    refine va_get (D := D) (ci := 1) (v := .ref qu) (C := R_M) (T := T_M) (N := 7) hx hb hts (ui_M _) hown hK hP 0 rfl rfl 3 (by decide) (hts _ (gwc gw_512)) (fun _ h9 => h9) rfl d_M_quarter_122 ?_
    refine lv_iload hx hb d_M_quarter_125 (lv_at hl 1 rfl) ?_
    refine lv_iconst (v := 1) hx hb d_M_quarter_127 (by decide) ?_
    refine lv_iadd hx hb d_M_quarter_128 ?_
    refine tp_i (5) (by decide) ?_
    refine lv_lload hx hb d_M_quarter_129 (lv_at hl 0 rfl) ?_
    refine sf_l (f8 (-0) 65536 (-36195) 65536 (-65536) 36195 0 65536) hx hb hK hP hD hS 1 2 rfl rfl 5 f8_5 (by decide) (by decide) d_M_quarter_131 (fun H locs hP hD hS => ?_)
    have hP : va_P D cl [(hm, .inr (1, [.ref a, .ref b, .ref qa, .ref qu, .ref qb, .ref qh, .ref qm])), (qu, .inl (cJ, 8, .inr (.inl (f8 (-0) 65536 (-36195) 65536 (-65536) 36195 0 65536))))] H := hP
    have hD : va_D A [(hm, .inr (1, [.ref a, .ref b, .ref qa, .ref qu, .ref qb, .ref qh, .ref qm])), (qu, .inl (cJ, 8, .inr (.inl (f8 (-0) 65536 (-36195) 65536 (-65536) 36195 0 65536))))] := hD
    refine lv_iinc (v := 6) (lv' := [(4, .int 6), (5, .long 36195), (3, .int 0), (0, .ref hm), (1, .long k)]) hx hb d_M_quarter_132 hl (k := 1) rfl (by first | exact nI_add _ 2 | rfl | decide) (by decide) rfl (fun ls hl => ?_)
    refine lv_goto (tgt := 88) hx hb d_M_quarter_135 (by decide) ?_
    refine lv_iload hx hb d_M_quarter_88 (lv_at hl 0 rfl) ?_
    refine lv_bipush (v := 8) hx hb d_M_quarter_90 (by decide) ?_
    refine bn_ge (a1 := 6) (b1 := 8) (tgt := 138) hx hb (by omega) (by omega) d_M_quarter_92 (by decide) (fun c_33 => ?_) (fun c_33 => ?_)
    · exact absurd c_33 (by decide)
    refine lv_aload_n hx hb d_M_quarter_95 rfl (lv_at hl 3 rfl) ?_
    refine va_get (D := D) (ci := 1) (v := .ref qu) (C := R_M) (T := T_M) (N := 7) hx hb hts (ui_M _) hown hK hP 0 rfl rfl 3 (by decide) (hts _ (gwc gw_512)) (fun _ h9 => h9) rfl d_M_quarter_96 ?_
    refine lv_iload hx hb d_M_quarter_99 (lv_at hl 0 rfl) ?_
    refine ld_l hx hb hK hP 1 2 rfl rfl 6 (by omega) (by omega) d_M_quarter_101 ?_
    refine tp_l (0) (rfl) ?_
    refine lv_lstore (lv' := [(5, .long 0), (4, .int 6), (3, .int 0), (0, .ref hm), (1, .long k)]) hx hb d_M_quarter_102 hl (by decide) rfl (fun ls hl => ?_)
    refine lv_aload_n hx hb d_M_quarter_104 rfl (lv_at hl 3 rfl) ?_
    refine va_get (D := D) (ci := 1) (v := .ref qu) (C := R_M) (T := T_M) (N := 7) hx hb hts (ui_M _) hown hK hP 0 rfl rfl 3 (by decide) (hts _ (gwc gw_512)) (fun _ h9 => h9) rfl d_M_quarter_105 ?_
    refine lv_iload hx hb d_M_quarter_108 (lv_at hl 1 rfl) ?_
    refine lv_aload_n hx hb d_M_quarter_110 rfl (lv_at hl 3 rfl) ?_
    refine va_get (D := D) (ci := 1) (v := .ref qu) (C := R_M) (T := T_M) (N := 7) hx hb hts (ui_M _) hown hK hP 0 rfl rfl 3 (by decide) (hts _ (gwc gw_512)) (fun _ h9 => h9) rfl d_M_quarter_111 ?_
    refine lv_iload hx hb d_M_quarter_114 (lv_at hl 1 rfl) ?_
    refine lv_iconst (v := 1) hx hb d_M_quarter_116 (by decide) ?_
    refine lv_iadd hx hb d_M_quarter_117 ?_
    refine tp_i (7) (by decide) ?_
    refine ld_l hx hb hK hP 1 2 rfl rfl 7 (by omega) (by omega) d_M_quarter_118 ?_
    refine tp_l (65536) (rfl) ?_
    refine lv_lneg hx hb d_M_quarter_119 ?_
    refine sf_l (f8 (-0) 65536 (-36195) 65536 (-65536) 36195 (-65536) 65536) hx hb hK hP hD hS 1 2 rfl rfl 6 f8_6 (by decide) (by decide) d_M_quarter_120 (fun H locs hP hD hS => ?_)
    have hP : va_P D cl [(hm, .inr (1, [.ref a, .ref b, .ref qa, .ref qu, .ref qb, .ref qh, .ref qm])), (qu, .inl (cJ, 8, .inr (.inl (f8 (-0) 65536 (-36195) 65536 (-65536) 36195 (-65536) 65536))))] H := hP
    have hD : va_D A [(hm, .inr (1, [.ref a, .ref b, .ref qa, .ref qu, .ref qb, .ref qh, .ref qm])), (qu, .inl (cJ, 8, .inr (.inl (f8 (-0) 65536 (-36195) 65536 (-65536) 36195 (-65536) 65536))))] := hD
    refine lv_aload_n hx hb d_M_quarter_121 rfl (lv_at hl 3 rfl) ?_
    refine va_get (D := D) (ci := 1) (v := .ref qu) (C := R_M) (T := T_M) (N := 7) hx hb hts (ui_M _) hown hK hP 0 rfl rfl 3 (by decide) (hts _ (gwc gw_512)) (fun _ h9 => h9) rfl d_M_quarter_122 ?_
    refine lv_iload hx hb d_M_quarter_125 (lv_at hl 1 rfl) ?_
    refine lv_iconst (v := 1) hx hb d_M_quarter_127 (by decide) ?_
    refine lv_iadd hx hb d_M_quarter_128 ?_
    refine tp_i (7) (by decide) ?_
    refine lv_lload hx hb d_M_quarter_129 (lv_at hl 0 rfl) ?_
    refine sf_l (f8 (-0) 65536 (-36195) 65536 (-65536) 36195 (-65536) 0) hx hb hK hP hD hS 1 2 rfl rfl 7 f8_7 (by decide) (by decide) d_M_quarter_131 (fun H locs hP hD hS => ?_)
    have hP : va_P D cl [(hm, .inr (1, [.ref a, .ref b, .ref qa, .ref qu, .ref qb, .ref qh, .ref qm])), (qu, .inl (cJ, 8, .inr (.inl (f8 (-0) 65536 (-36195) 65536 (-65536) 36195 (-65536) 0))))] H := hP
    have hD : va_D A [(hm, .inr (1, [.ref a, .ref b, .ref qa, .ref qu, .ref qb, .ref qh, .ref qm])), (qu, .inl (cJ, 8, .inr (.inl (f8 (-0) 65536 (-36195) 65536 (-65536) 36195 (-65536) 0))))] := hD
    refine lv_iinc (v := 8) (lv' := [(4, .int 8), (5, .long 0), (3, .int 0), (0, .ref hm), (1, .long k)]) hx hb d_M_quarter_132 hl (k := 1) rfl (by first | exact nI_add _ 2 | rfl | decide) (by decide) rfl (fun ls hl => ?_)
    refine lv_goto (tgt := 88) hx hb d_M_quarter_135 (by decide) ?_
    refine lv_iload hx hb d_M_quarter_88 (lv_at hl 0 rfl) ?_
    refine lv_bipush (v := 8) hx hb d_M_quarter_90 (by decide) ?_
    refine bn_ge (a1 := 8) (b1 := 8) (tgt := 138) hx hb (by omega) (by omega) d_M_quarter_92 (by decide) (fun c_34 => ?_) (fun c_34 => ?_)
    rotate_left
    · exact absurd c_34 (by decide)
    refine lv_iinc (v := 1) (lv' := [(3, .int 1), (4, .int 8), (5, .long 0), (0, .ref hm), (1, .long k)]) hx hb d_M_quarter_138 hl (k := 2) rfl (by first | exact nI_add _ 1 | rfl | decide) (by decide) rfl (fun ls hl => ?_)
    refine lv_goto (tgt := 72) hx hb d_M_quarter_141 (by decide) ?_
    refine lv_iload_n hx hb d_M_quarter_72 rfl (lv_at hl 0 rfl) ?_
    refine lv_i2l (v := 1) hx hb d_M_quarter_73 (by decide) ?_
    refine lv_lload_n hx hb d_M_quarter_74 rfl (lv_at hl 4 rfl) ?_
    refine lv_ldc2 (v := 4) hx hb hown (hts _ (gwc gw_641)) d_M_quarter_75 ?_
    refine ct_callS (av := [.long k, .long 4]) (rest := [.long 1]) (wr := [(hm, .inr (1, [.ref a, .ref b, .ref qa, .ref qu, .ref qb, .ref qh, .ref qm])), (qu, .inl (cJ, 8, .inr (.inl (f8 (-0) 65536 (-36195) 65536 (-65536) 36195 (-65536) 0))))]) (n := 2) (c_floorMod l D cI cB cJ qQ  k 4 (by decide)) hx hb hml hown hts (amb_ok qQ) hK hP hD hS hA hM (gi_S gw_629 gw_250 gw_35 gw_251) rfl (by decide +kernel) ⟨by omega, by omega⟩ [] [0, 1] rfl rfl rfl rfl (by decide) rfl hl.1 rfl (Nat.le_of_ble_eq_true rfl) d_M_quarter_78 ⟨by omega, by omega⟩ (fun u_35 H locs hok hP hD hS => ?_)
    have hP : va_P D cl [(hm, .inr (1, [.ref a, .ref b, .ref qa, .ref qu, .ref qb, .ref qh, .ref qm])), (qu, .inl (cJ, 8, .inr (.inl (f8 (-0) 65536 (-36195) 65536 (-65536) 36195 (-65536) 0))))] H := hP
    have hD : va_D A [(hm, .inr (1, [.ref a, .ref b, .ref qa, .ref qu, .ref qb, .ref qh, .ref qm])), (qu, .inl (cJ, 8, .inr (.inl (f8 (-0) 65536 (-36195) 65536 (-65536) 36195 (-65536) 0))))] := hD
    refine W.eq (g2 := F0 m 81 ls [.long (fmd k 4), .long 1]) rfl ?_
    refine tp_l (3) (h_) ?_
    refine W.lcmp hx hb d_M_quarter_81 ?_
    refine lc_ge (tgt := 144) hx hb d_M_quarter_82 (by decide) (fun c_36 => ?_) (fun c_36 => ?_)
    · exact absurd c_36 (by decide)
    refine lv_iconst (v := 0) hx hb d_M_quarter_85 (by decide) ?_
    refine lv_istore (lv' := [(4, .int 0), (3, .int 1), (5, .long 0), (0, .ref hm), (1, .long k)]) hx hb d_M_quarter_86 hl (by decide) rfl (fun ls hl => ?_)
    refine lv_iload hx hb d_M_quarter_88 (lv_at hl 0 rfl) ?_
    refine lv_bipush (v := 8) hx hb d_M_quarter_90 (by decide) ?_
    refine bn_ge (a1 := 0) (b1 := 8) (tgt := 138) hx hb (by omega) (by omega) d_M_quarter_92 (by decide) (fun c_37 => ?_) (fun c_37 => ?_)
    · exact absurd c_37 (by decide)
    refine lv_aload_n hx hb d_M_quarter_95 rfl (lv_at hl 3 rfl) ?_
    refine va_get (D := D) (ci := 1) (v := .ref qu) (C := R_M) (T := T_M) (N := 7) hx hb hts (ui_M _) hown hK hP 0 rfl rfl 3 (by decide) (hts _ (gwc gw_512)) (fun _ h9 => h9) rfl d_M_quarter_96 ?_
    refine lv_iload hx hb d_M_quarter_99 (lv_at hl 0 rfl) ?_
    refine ld_l hx hb hK hP 1 2 rfl rfl 0 (by omega) (by omega) d_M_quarter_101 ?_
    refine tp_l (-0) (rfl) ?_
    refine lv_lstore (lv' := [(5, .long (-0)), (4, .int 0), (3, .int 1), (0, .ref hm), (1, .long k)]) hx hb d_M_quarter_102 hl (by decide) rfl (fun ls hl => ?_)
    refine lv_aload_n hx hb d_M_quarter_104 rfl (lv_at hl 3 rfl) ?_
    refine va_get (D := D) (ci := 1) (v := .ref qu) (C := R_M) (T := T_M) (N := 7) hx hb hts (ui_M _) hown hK hP 0 rfl rfl 3 (by decide) (hts _ (gwc gw_512)) (fun _ h9 => h9) rfl d_M_quarter_105 ?_
    refine lv_iload hx hb d_M_quarter_108 (lv_at hl 1 rfl) ?_
    refine lv_aload_n hx hb d_M_quarter_110 rfl (lv_at hl 3 rfl) ?_
    refine va_get (D := D) (ci := 1) (v := .ref qu) (C := R_M) (T := T_M) (N := 7) hx hb hts (ui_M _) hown hK hP 0 rfl rfl 3 (by decide) (hts _ (gwc gw_512)) (fun _ h9 => h9) rfl d_M_quarter_111 ?_
    refine lv_iload hx hb d_M_quarter_114 (lv_at hl 1 rfl) ?_
    refine lv_iconst (v := 1) hx hb d_M_quarter_116 (by decide) ?_
    refine lv_iadd hx hb d_M_quarter_117 ?_
    refine tp_i (1) (by decide) ?_
    refine ld_l hx hb hK hP 1 2 rfl rfl 1 (by omega) (by omega) d_M_quarter_118 ?_
    refine tp_l (65536) (rfl) ?_
    refine lv_lneg hx hb d_M_quarter_119 ?_
    refine sf_l (f8 (-65536) 65536 (-36195) 65536 (-65536) 36195 (-65536) 0) hx hb hK hP hD hS 1 2 rfl rfl 0 f8_0 (by decide) (by decide) d_M_quarter_120 (fun H locs hP hD hS => ?_)
    have hP : va_P D cl [(hm, .inr (1, [.ref a, .ref b, .ref qa, .ref qu, .ref qb, .ref qh, .ref qm])), (qu, .inl (cJ, 8, .inr (.inl (f8 (-65536) 65536 (-36195) 65536 (-65536) 36195 (-65536) 0))))] H := hP
    have hD : va_D A [(hm, .inr (1, [.ref a, .ref b, .ref qa, .ref qu, .ref qb, .ref qh, .ref qm])), (qu, .inl (cJ, 8, .inr (.inl (f8 (-65536) 65536 (-36195) 65536 (-65536) 36195 (-65536) 0))))] := hD
    refine lv_aload_n hx hb d_M_quarter_121 rfl (lv_at hl 3 rfl) ?_
    refine va_get (D := D) (ci := 1) (v := .ref qu) (C := R_M) (T := T_M) (N := 7) hx hb hts (ui_M _) hown hK hP 0 rfl rfl 3 (by decide) (hts _ (gwc gw_512)) (fun _ h9 => h9) rfl d_M_quarter_122 ?_
    refine lv_iload hx hb d_M_quarter_125 (lv_at hl 1 rfl) ?_
    refine lv_iconst (v := 1) hx hb d_M_quarter_127 (by decide) ?_
    refine lv_iadd hx hb d_M_quarter_128 ?_
    refine tp_i (1) (by decide) ?_
    refine lv_lload hx hb d_M_quarter_129 (lv_at hl 0 rfl) ?_
    refine sf_l (f8 (-65536) (-0) (-36195) 65536 (-65536) 36195 (-65536) 0) hx hb hK hP hD hS 1 2 rfl rfl 1 f8_1 (by decide) (by decide) d_M_quarter_131 (fun H locs hP hD hS => ?_)
    have hP : va_P D cl [(hm, .inr (1, [.ref a, .ref b, .ref qa, .ref qu, .ref qb, .ref qh, .ref qm])), (qu, .inl (cJ, 8, .inr (.inl (f8 (-65536) (-0) (-36195) 65536 (-65536) 36195 (-65536) 0))))] H := hP
    have hD : va_D A [(hm, .inr (1, [.ref a, .ref b, .ref qa, .ref qu, .ref qb, .ref qh, .ref qm])), (qu, .inl (cJ, 8, .inr (.inl (f8 (-65536) (-0) (-36195) 65536 (-65536) 36195 (-65536) 0))))] := hD
    refine lv_iinc (v := 2) (lv' := [(4, .int 2), (5, .long (-0)), (3, .int 1), (0, .ref hm), (1, .long k)]) hx hb d_M_quarter_132 hl (k := 1) rfl (by first | exact nI_add _ 2 | rfl | decide) (by decide) rfl (fun ls hl => ?_)
    refine lv_goto (tgt := 88) hx hb d_M_quarter_135 (by decide) ?_
    refine lv_iload hx hb d_M_quarter_88 (lv_at hl 0 rfl) ?_
    refine lv_bipush (v := 8) hx hb d_M_quarter_90 (by decide) ?_
    refine bn_ge (a1 := 2) (b1 := 8) (tgt := 138) hx hb (by omega) (by omega) d_M_quarter_92 (by decide) (fun c_38 => ?_) (fun c_38 => ?_)
    · exact absurd c_38 (by decide)
    refine lv_aload_n hx hb d_M_quarter_95 rfl (lv_at hl 3 rfl) ?_
    refine va_get (D := D) (ci := 1) (v := .ref qu) (C := R_M) (T := T_M) (N := 7) hx hb hts (ui_M _) hown hK hP 0 rfl rfl 3 (by decide) (hts _ (gwc gw_512)) (fun _ h9 => h9) rfl d_M_quarter_96 ?_
    refine lv_iload hx hb d_M_quarter_99 (lv_at hl 0 rfl) ?_
    refine ld_l hx hb hK hP 1 2 rfl rfl 2 (by omega) (by omega) d_M_quarter_101 ?_
    refine tp_l (-36195) (rfl) ?_
    refine lv_lstore (lv' := [(5, .long (-36195)), (4, .int 2), (3, .int 1), (0, .ref hm), (1, .long k)]) hx hb d_M_quarter_102 hl (by decide) rfl (fun ls hl => ?_)
    refine lv_aload_n hx hb d_M_quarter_104 rfl (lv_at hl 3 rfl) ?_
    refine va_get (D := D) (ci := 1) (v := .ref qu) (C := R_M) (T := T_M) (N := 7) hx hb hts (ui_M _) hown hK hP 0 rfl rfl 3 (by decide) (hts _ (gwc gw_512)) (fun _ h9 => h9) rfl d_M_quarter_105 ?_
    refine lv_iload hx hb d_M_quarter_108 (lv_at hl 1 rfl) ?_
    refine lv_aload_n hx hb d_M_quarter_110 rfl (lv_at hl 3 rfl) ?_
    refine va_get (D := D) (ci := 1) (v := .ref qu) (C := R_M) (T := T_M) (N := 7) hx hb hts (ui_M _) hown hK hP 0 rfl rfl 3 (by decide) (hts _ (gwc gw_512)) (fun _ h9 => h9) rfl d_M_quarter_111 ?_
    refine lv_iload hx hb d_M_quarter_114 (lv_at hl 1 rfl) ?_
    refine lv_iconst (v := 1) hx hb d_M_quarter_116 (by decide) ?_
    refine lv_iadd hx hb d_M_quarter_117 ?_
    refine tp_i (3) (by decide) ?_
    refine ld_l hx hb hK hP 1 2 rfl rfl 3 (by omega) (by omega) d_M_quarter_118 ?_
    refine tp_l (65536) (rfl) ?_
    refine lv_lneg hx hb d_M_quarter_119 ?_
    refine sf_l (f8 (-65536) (-0) (-65536) 65536 (-65536) 36195 (-65536) 0) hx hb hK hP hD hS 1 2 rfl rfl 2 f8_2 (by decide) (by decide) d_M_quarter_120 (fun H locs hP hD hS => ?_)
    have hP : va_P D cl [(hm, .inr (1, [.ref a, .ref b, .ref qa, .ref qu, .ref qb, .ref qh, .ref qm])), (qu, .inl (cJ, 8, .inr (.inl (f8 (-65536) (-0) (-65536) 65536 (-65536) 36195 (-65536) 0))))] H := hP
    have hD : va_D A [(hm, .inr (1, [.ref a, .ref b, .ref qa, .ref qu, .ref qb, .ref qh, .ref qm])), (qu, .inl (cJ, 8, .inr (.inl (f8 (-65536) (-0) (-65536) 65536 (-65536) 36195 (-65536) 0))))] := hD
    refine lv_aload_n hx hb d_M_quarter_121 rfl (lv_at hl 3 rfl) ?_
    refine va_get (D := D) (ci := 1) (v := .ref qu) (C := R_M) (T := T_M) (N := 7) hx hb hts (ui_M _) hown hK hP 0 rfl rfl 3 (by decide) (hts _ (gwc gw_512)) (fun _ h9 => h9) rfl d_M_quarter_122 ?_
    refine lv_iload hx hb d_M_quarter_125 (lv_at hl 1 rfl) ?_
    refine lv_iconst (v := 1) hx hb d_M_quarter_127 (by decide) ?_
    refine lv_iadd hx hb d_M_quarter_128 ?_
    refine tp_i (3) (by decide) ?_
    refine lv_lload hx hb d_M_quarter_129 (lv_at hl 0 rfl) ?_
    refine sf_l (f8 (-65536) (-0) (-65536) (-36195) (-65536) 36195 (-65536) 0) hx hb hK hP hD hS 1 2 rfl rfl 3 f8_3 (by decide) (by decide) d_M_quarter_131 (fun H locs hP hD hS => ?_)
    have hP : va_P D cl [(hm, .inr (1, [.ref a, .ref b, .ref qa, .ref qu, .ref qb, .ref qh, .ref qm])), (qu, .inl (cJ, 8, .inr (.inl (f8 (-65536) (-0) (-65536) (-36195) (-65536) 36195 (-65536) 0))))] H := hP
    have hD : va_D A [(hm, .inr (1, [.ref a, .ref b, .ref qa, .ref qu, .ref qb, .ref qh, .ref qm])), (qu, .inl (cJ, 8, .inr (.inl (f8 (-65536) (-0) (-65536) (-36195) (-65536) 36195 (-65536) 0))))] := hD
    refine lv_iinc (v := 4) (lv' := [(4, .int 4), (5, .long (-36195)), (3, .int 1), (0, .ref hm), (1, .long k)]) hx hb d_M_quarter_132 hl (k := 1) rfl (by first | exact nI_add _ 2 | rfl | decide) (by decide) rfl (fun ls hl => ?_)
    refine lv_goto (tgt := 88) hx hb d_M_quarter_135 (by decide) ?_
    refine lv_iload hx hb d_M_quarter_88 (lv_at hl 0 rfl) ?_
    refine lv_bipush (v := 8) hx hb d_M_quarter_90 (by decide) ?_
    refine bn_ge (a1 := 4) (b1 := 8) (tgt := 138) hx hb (by omega) (by omega) d_M_quarter_92 (by decide) (fun c_39 => ?_) (fun c_39 => ?_)
    · exact absurd c_39 (by decide)
    refine lv_aload_n hx hb d_M_quarter_95 rfl (lv_at hl 3 rfl) ?_
    refine va_get (D := D) (ci := 1) (v := .ref qu) (C := R_M) (T := T_M) (N := 7) hx hb hts (ui_M _) hown hK hP 0 rfl rfl 3 (by decide) (hts _ (gwc gw_512)) (fun _ h9 => h9) rfl d_M_quarter_96 ?_
    refine lv_iload hx hb d_M_quarter_99 (lv_at hl 0 rfl) ?_
    refine ld_l hx hb hK hP 1 2 rfl rfl 4 (by omega) (by omega) d_M_quarter_101 ?_
    refine tp_l (-65536) (rfl) ?_
    refine lv_lstore (lv' := [(5, .long (-65536)), (4, .int 4), (3, .int 1), (0, .ref hm), (1, .long k)]) hx hb d_M_quarter_102 hl (by decide) rfl (fun ls hl => ?_)
    refine lv_aload_n hx hb d_M_quarter_104 rfl (lv_at hl 3 rfl) ?_
    refine va_get (D := D) (ci := 1) (v := .ref qu) (C := R_M) (T := T_M) (N := 7) hx hb hts (ui_M _) hown hK hP 0 rfl rfl 3 (by decide) (hts _ (gwc gw_512)) (fun _ h9 => h9) rfl d_M_quarter_105 ?_
    refine lv_iload hx hb d_M_quarter_108 (lv_at hl 1 rfl) ?_
    refine lv_aload_n hx hb d_M_quarter_110 rfl (lv_at hl 3 rfl) ?_
    refine va_get (D := D) (ci := 1) (v := .ref qu) (C := R_M) (T := T_M) (N := 7) hx hb hts (ui_M _) hown hK hP 0 rfl rfl 3 (by decide) (hts _ (gwc gw_512)) (fun _ h9 => h9) rfl d_M_quarter_111 ?_
    refine lv_iload hx hb d_M_quarter_114 (lv_at hl 1 rfl) ?_
    refine lv_iconst (v := 1) hx hb d_M_quarter_116 (by decide) ?_
    refine lv_iadd hx hb d_M_quarter_117 ?_
    refine tp_i (5) (by decide) ?_
    refine ld_l hx hb hK hP 1 2 rfl rfl 5 (by omega) (by omega) d_M_quarter_118 ?_
    refine tp_l (36195) (rfl) ?_
    refine lv_lneg hx hb d_M_quarter_119 ?_
    refine sf_l (f8 (-65536) (-0) (-65536) (-36195) (-36195) 36195 (-65536) 0) hx hb hK hP hD hS 1 2 rfl rfl 4 f8_4 (by decide) (by decide) d_M_quarter_120 (fun H locs hP hD hS => ?_)
    have hP : va_P D cl [(hm, .inr (1, [.ref a, .ref b, .ref qa, .ref qu, .ref qb, .ref qh, .ref qm])), (qu, .inl (cJ, 8, .inr (.inl (f8 (-65536) (-0) (-65536) (-36195) (-36195) 36195 (-65536) 0))))] H := hP
    have hD : va_D A [(hm, .inr (1, [.ref a, .ref b, .ref qa, .ref qu, .ref qb, .ref qh, .ref qm])), (qu, .inl (cJ, 8, .inr (.inl (f8 (-65536) (-0) (-65536) (-36195) (-36195) 36195 (-65536) 0))))] := hD
    refine lv_aload_n hx hb d_M_quarter_121 rfl (lv_at hl 3 rfl) ?_
    refine va_get (D := D) (ci := 1) (v := .ref qu) (C := R_M) (T := T_M) (N := 7) hx hb hts (ui_M _) hown hK hP 0 rfl rfl 3 (by decide) (hts _ (gwc gw_512)) (fun _ h9 => h9) rfl d_M_quarter_122 ?_
    refine lv_iload hx hb d_M_quarter_125 (lv_at hl 1 rfl) ?_
    refine lv_iconst (v := 1) hx hb d_M_quarter_127 (by decide) ?_
    refine lv_iadd hx hb d_M_quarter_128 ?_
    refine tp_i (5) (by decide) ?_
    refine lv_lload hx hb d_M_quarter_129 (lv_at hl 0 rfl) ?_
    refine sf_l (f8 (-65536) (-0) (-65536) (-36195) (-36195) (-65536) (-65536) 0) hx hb hK hP hD hS 1 2 rfl rfl 5 f8_5 (by decide) (by decide) d_M_quarter_131 (fun H locs hP hD hS => ?_)
    have hP : va_P D cl [(hm, .inr (1, [.ref a, .ref b, .ref qa, .ref qu, .ref qb, .ref qh, .ref qm])), (qu, .inl (cJ, 8, .inr (.inl (f8 (-65536) (-0) (-65536) (-36195) (-36195) (-65536) (-65536) 0))))] H := hP
    have hD : va_D A [(hm, .inr (1, [.ref a, .ref b, .ref qa, .ref qu, .ref qb, .ref qh, .ref qm])), (qu, .inl (cJ, 8, .inr (.inl (f8 (-65536) (-0) (-65536) (-36195) (-36195) (-65536) (-65536) 0))))] := hD
    refine lv_iinc (v := 6) (lv' := [(4, .int 6), (5, .long (-65536)), (3, .int 1), (0, .ref hm), (1, .long k)]) hx hb d_M_quarter_132 hl (k := 1) rfl (by first | exact nI_add _ 2 | rfl | decide) (by decide) rfl (fun ls hl => ?_)
    refine lv_goto (tgt := 88) hx hb d_M_quarter_135 (by decide) ?_
    refine lv_iload hx hb d_M_quarter_88 (lv_at hl 0 rfl) ?_
    refine lv_bipush (v := 8) hx hb d_M_quarter_90 (by decide) ?_
    refine bn_ge (a1 := 6) (b1 := 8) (tgt := 138) hx hb (by omega) (by omega) d_M_quarter_92 (by decide) (fun c_40 => ?_) (fun c_40 => ?_)
    · exact absurd c_40 (by decide)
    refine lv_aload_n hx hb d_M_quarter_95 rfl (lv_at hl 3 rfl) ?_
    refine va_get (D := D) (ci := 1) (v := .ref qu) (C := R_M) (T := T_M) (N := 7) hx hb hts (ui_M _) hown hK hP 0 rfl rfl 3 (by decide) (hts _ (gwc gw_512)) (fun _ h9 => h9) rfl d_M_quarter_96 ?_
    refine lv_iload hx hb d_M_quarter_99 (lv_at hl 0 rfl) ?_
    refine ld_l hx hb hK hP 1 2 rfl rfl 6 (by omega) (by omega) d_M_quarter_101 ?_
    refine tp_l (-65536) (rfl) ?_
    refine lv_lstore (lv' := [(5, .long (-65536)), (4, .int 6), (3, .int 1), (0, .ref hm), (1, .long k)]) hx hb d_M_quarter_102 hl (by decide) rfl (fun ls hl => ?_)
    refine lv_aload_n hx hb d_M_quarter_104 rfl (lv_at hl 3 rfl) ?_
    refine va_get (D := D) (ci := 1) (v := .ref qu) (C := R_M) (T := T_M) (N := 7) hx hb hts (ui_M _) hown hK hP 0 rfl rfl 3 (by decide) (hts _ (gwc gw_512)) (fun _ h9 => h9) rfl d_M_quarter_105 ?_
    refine lv_iload hx hb d_M_quarter_108 (lv_at hl 1 rfl) ?_
    refine lv_aload_n hx hb d_M_quarter_110 rfl (lv_at hl 3 rfl) ?_
    refine va_get (D := D) (ci := 1) (v := .ref qu) (C := R_M) (T := T_M) (N := 7) hx hb hts (ui_M _) hown hK hP 0 rfl rfl 3 (by decide) (hts _ (gwc gw_512)) (fun _ h9 => h9) rfl d_M_quarter_111 ?_
    refine lv_iload hx hb d_M_quarter_114 (lv_at hl 1 rfl) ?_
    refine lv_iconst (v := 1) hx hb d_M_quarter_116 (by decide) ?_
    refine lv_iadd hx hb d_M_quarter_117 ?_
    refine tp_i (7) (by decide) ?_
    refine ld_l hx hb hK hP 1 2 rfl rfl 7 (by omega) (by omega) d_M_quarter_118 ?_
    refine tp_l (0) (rfl) ?_
    refine lv_lneg hx hb d_M_quarter_119 ?_
    refine sf_l (f8 (-65536) (-0) (-65536) (-36195) (-36195) (-65536) (-0) 0) hx hb hK hP hD hS 1 2 rfl rfl 6 f8_6 (by decide) (by decide) d_M_quarter_120 (fun H locs hP hD hS => ?_)
    have hP : va_P D cl [(hm, .inr (1, [.ref a, .ref b, .ref qa, .ref qu, .ref qb, .ref qh, .ref qm])), (qu, .inl (cJ, 8, .inr (.inl (f8 (-65536) (-0) (-65536) (-36195) (-36195) (-65536) (-0) 0))))] H := hP
    have hD : va_D A [(hm, .inr (1, [.ref a, .ref b, .ref qa, .ref qu, .ref qb, .ref qh, .ref qm])), (qu, .inl (cJ, 8, .inr (.inl (f8 (-65536) (-0) (-65536) (-36195) (-36195) (-65536) (-0) 0))))] := hD
    refine lv_aload_n hx hb d_M_quarter_121 rfl (lv_at hl 3 rfl) ?_
    refine va_get (D := D) (ci := 1) (v := .ref qu) (C := R_M) (T := T_M) (N := 7) hx hb hts (ui_M _) hown hK hP 0 rfl rfl 3 (by decide) (hts _ (gwc gw_512)) (fun _ h9 => h9) rfl d_M_quarter_122 ?_
    refine lv_iload hx hb d_M_quarter_125 (lv_at hl 1 rfl) ?_
    refine lv_iconst (v := 1) hx hb d_M_quarter_127 (by decide) ?_
    refine lv_iadd hx hb d_M_quarter_128 ?_
    refine tp_i (7) (by decide) ?_
    refine lv_lload hx hb d_M_quarter_129 (lv_at hl 0 rfl) ?_
    refine sf_l (f8 (-65536) (-0) (-65536) (-36195) (-36195) (-65536) (-0) (-65536)) hx hb hK hP hD hS 1 2 rfl rfl 7 f8_7 (by decide) (by decide) d_M_quarter_131 (fun H locs hP hD hS => ?_)
    have hP : va_P D cl [(hm, .inr (1, [.ref a, .ref b, .ref qa, .ref qu, .ref qb, .ref qh, .ref qm])), (qu, .inl (cJ, 8, .inr (.inl (f8 (-65536) (-0) (-65536) (-36195) (-36195) (-65536) (-0) (-65536)))))] H := hP
    have hD : va_D A [(hm, .inr (1, [.ref a, .ref b, .ref qa, .ref qu, .ref qb, .ref qh, .ref qm])), (qu, .inl (cJ, 8, .inr (.inl (f8 (-65536) (-0) (-65536) (-36195) (-36195) (-65536) (-0) (-65536)))))] := hD
    refine lv_iinc (v := 8) (lv' := [(4, .int 8), (5, .long (-65536)), (3, .int 1), (0, .ref hm), (1, .long k)]) hx hb d_M_quarter_132 hl (k := 1) rfl (by first | exact nI_add _ 2 | rfl | decide) (by decide) rfl (fun ls hl => ?_)
    refine lv_goto (tgt := 88) hx hb d_M_quarter_135 (by decide) ?_
    refine lv_iload hx hb d_M_quarter_88 (lv_at hl 0 rfl) ?_
    refine lv_bipush (v := 8) hx hb d_M_quarter_90 (by decide) ?_
    refine bn_ge (a1 := 8) (b1 := 8) (tgt := 138) hx hb (by omega) (by omega) d_M_quarter_92 (by decide) (fun c_41 => ?_) (fun c_41 => ?_)
    rotate_left
    · exact absurd c_41 (by decide)
    refine lv_iinc (v := 2) (lv' := [(3, .int 2), (4, .int 8), (5, .long (-65536)), (0, .ref hm), (1, .long k)]) hx hb d_M_quarter_138 hl (k := 2) rfl (by first | exact nI_add _ 1 | rfl | decide) (by decide) rfl (fun ls hl => ?_)
    refine lv_goto (tgt := 72) hx hb d_M_quarter_141 (by decide) ?_
    refine lv_iload_n hx hb d_M_quarter_72 rfl (lv_at hl 0 rfl) ?_
    refine lv_i2l (v := 2) hx hb d_M_quarter_73 (by decide) ?_
    refine lv_lload_n hx hb d_M_quarter_74 rfl (lv_at hl 4 rfl) ?_
    refine lv_ldc2 (v := 4) hx hb hown (hts _ (gwc gw_641)) d_M_quarter_75 ?_
    refine ct_callS (av := [.long k, .long 4]) (rest := [.long 2]) (wr := [(hm, .inr (1, [.ref a, .ref b, .ref qa, .ref qu, .ref qb, .ref qh, .ref qm])), (qu, .inl (cJ, 8, .inr (.inl (f8 (-65536) (-0) (-65536) (-36195) (-36195) (-65536) (-0) (-65536)))))]) (n := 2) (c_floorMod l D cI cB cJ qQ  k 4 (by decide)) hx hb hml hown hts (amb_ok qQ) hK hP hD hS hA hM (gi_S gw_629 gw_250 gw_35 gw_251) rfl (by decide +kernel) ⟨by omega, by omega⟩ [] [0, 1] rfl rfl rfl rfl (by decide) rfl hl.1 rfl (Nat.le_of_ble_eq_true rfl) d_M_quarter_78 ⟨by omega, by omega⟩ (fun u_42 H locs hok hP hD hS => ?_)
    have hP : va_P D cl [(hm, .inr (1, [.ref a, .ref b, .ref qa, .ref qu, .ref qb, .ref qh, .ref qm])), (qu, .inl (cJ, 8, .inr (.inl (f8 (-65536) (-0) (-65536) (-36195) (-36195) (-65536) (-0) (-65536)))))] H := hP
    have hD : va_D A [(hm, .inr (1, [.ref a, .ref b, .ref qa, .ref qu, .ref qb, .ref qh, .ref qm])), (qu, .inl (cJ, 8, .inr (.inl (f8 (-65536) (-0) (-65536) (-36195) (-36195) (-65536) (-0) (-65536)))))] := hD
    refine W.eq (g2 := F0 m 81 ls [.long (fmd k 4), .long 2]) rfl ?_
    refine tp_l (3) (h_) ?_
    refine W.lcmp hx hb d_M_quarter_81 ?_
    refine lc_ge (tgt := 144) hx hb d_M_quarter_82 (by decide) (fun c_43 => ?_) (fun c_43 => ?_)
    · exact absurd c_43 (by decide)
    refine lv_iconst (v := 0) hx hb d_M_quarter_85 (by decide) ?_
    refine lv_istore (lv' := [(4, .int 0), (3, .int 2), (5, .long (-65536)), (0, .ref hm), (1, .long k)]) hx hb d_M_quarter_86 hl (by decide) rfl (fun ls hl => ?_)
    refine lv_iload hx hb d_M_quarter_88 (lv_at hl 0 rfl) ?_
    refine lv_bipush (v := 8) hx hb d_M_quarter_90 (by decide) ?_
    refine bn_ge (a1 := 0) (b1 := 8) (tgt := 138) hx hb (by omega) (by omega) d_M_quarter_92 (by decide) (fun c_44 => ?_) (fun c_44 => ?_)
    · exact absurd c_44 (by decide)
    refine lv_aload_n hx hb d_M_quarter_95 rfl (lv_at hl 3 rfl) ?_
    refine va_get (D := D) (ci := 1) (v := .ref qu) (C := R_M) (T := T_M) (N := 7) hx hb hts (ui_M _) hown hK hP 0 rfl rfl 3 (by decide) (hts _ (gwc gw_512)) (fun _ h9 => h9) rfl d_M_quarter_96 ?_
    refine lv_iload hx hb d_M_quarter_99 (lv_at hl 0 rfl) ?_
    refine ld_l hx hb hK hP 1 2 rfl rfl 0 (by omega) (by omega) d_M_quarter_101 ?_
    refine tp_l (-65536) (rfl) ?_
    refine lv_lstore (lv' := [(5, .long (-65536)), (4, .int 0), (3, .int 2), (0, .ref hm), (1, .long k)]) hx hb d_M_quarter_102 hl (by decide) rfl (fun ls hl => ?_)
    refine lv_aload_n hx hb d_M_quarter_104 rfl (lv_at hl 3 rfl) ?_
    refine va_get (D := D) (ci := 1) (v := .ref qu) (C := R_M) (T := T_M) (N := 7) hx hb hts (ui_M _) hown hK hP 0 rfl rfl 3 (by decide) (hts _ (gwc gw_512)) (fun _ h9 => h9) rfl d_M_quarter_105 ?_
    refine lv_iload hx hb d_M_quarter_108 (lv_at hl 1 rfl) ?_
    refine lv_aload_n hx hb d_M_quarter_110 rfl (lv_at hl 3 rfl) ?_
    refine va_get (D := D) (ci := 1) (v := .ref qu) (C := R_M) (T := T_M) (N := 7) hx hb hts (ui_M _) hown hK hP 0 rfl rfl 3 (by decide) (hts _ (gwc gw_512)) (fun _ h9 => h9) rfl d_M_quarter_111 ?_
    refine lv_iload hx hb d_M_quarter_114 (lv_at hl 1 rfl) ?_
    refine lv_iconst (v := 1) hx hb d_M_quarter_116 (by decide) ?_
    refine lv_iadd hx hb d_M_quarter_117 ?_
    refine tp_i (1) (by decide) ?_
    refine ld_l hx hb hK hP 1 2 rfl rfl 1 (by omega) (by omega) d_M_quarter_118 ?_
    refine tp_l (-0) (rfl) ?_
    refine lv_lneg hx hb d_M_quarter_119 ?_
    refine sf_l (f8 (-(-0)) (-0) (-65536) (-36195) (-36195) (-65536) (-0) (-65536)) hx hb hK hP hD hS 1 2 rfl rfl 0 f8_0 (by decide) (by decide) d_M_quarter_120 (fun H locs hP hD hS => ?_)
    have hP : va_P D cl [(hm, .inr (1, [.ref a, .ref b, .ref qa, .ref qu, .ref qb, .ref qh, .ref qm])), (qu, .inl (cJ, 8, .inr (.inl (f8 (-(-0)) (-0) (-65536) (-36195) (-36195) (-65536) (-0) (-65536)))))] H := hP
    have hD : va_D A [(hm, .inr (1, [.ref a, .ref b, .ref qa, .ref qu, .ref qb, .ref qh, .ref qm])), (qu, .inl (cJ, 8, .inr (.inl (f8 (-(-0)) (-0) (-65536) (-36195) (-36195) (-65536) (-0) (-65536)))))] := hD
    refine lv_aload_n hx hb d_M_quarter_121 rfl (lv_at hl 3 rfl) ?_
    refine va_get (D := D) (ci := 1) (v := .ref qu) (C := R_M) (T := T_M) (N := 7) hx hb hts (ui_M _) hown hK hP 0 rfl rfl 3 (by decide) (hts _ (gwc gw_512)) (fun _ h9 => h9) rfl d_M_quarter_122 ?_
    refine lv_iload hx hb d_M_quarter_125 (lv_at hl 1 rfl) ?_
    refine lv_iconst (v := 1) hx hb d_M_quarter_127 (by decide) ?_
    refine lv_iadd hx hb d_M_quarter_128 ?_
    refine tp_i (1) (by decide) ?_
    refine lv_lload hx hb d_M_quarter_129 (lv_at hl 0 rfl) ?_
    refine sf_l (f8 (-(-0)) (-65536) (-65536) (-36195) (-36195) (-65536) (-0) (-65536)) hx hb hK hP hD hS 1 2 rfl rfl 1 f8_1 (by decide) (by decide) d_M_quarter_131 (fun H locs hP hD hS => ?_)
    have hP : va_P D cl [(hm, .inr (1, [.ref a, .ref b, .ref qa, .ref qu, .ref qb, .ref qh, .ref qm])), (qu, .inl (cJ, 8, .inr (.inl (f8 (-(-0)) (-65536) (-65536) (-36195) (-36195) (-65536) (-0) (-65536)))))] H := hP
    have hD : va_D A [(hm, .inr (1, [.ref a, .ref b, .ref qa, .ref qu, .ref qb, .ref qh, .ref qm])), (qu, .inl (cJ, 8, .inr (.inl (f8 (-(-0)) (-65536) (-65536) (-36195) (-36195) (-65536) (-0) (-65536)))))] := hD
    refine lv_iinc (v := 2) (lv' := [(4, .int 2), (5, .long (-65536)), (3, .int 2), (0, .ref hm), (1, .long k)]) hx hb d_M_quarter_132 hl (k := 1) rfl (by first | exact nI_add _ 2 | rfl | decide) (by decide) rfl (fun ls hl => ?_)
    refine lv_goto (tgt := 88) hx hb d_M_quarter_135 (by decide) ?_
    refine lv_iload hx hb d_M_quarter_88 (lv_at hl 0 rfl) ?_
    refine lv_bipush (v := 8) hx hb d_M_quarter_90 (by decide) ?_
    refine bn_ge (a1 := 2) (b1 := 8) (tgt := 138) hx hb (by omega) (by omega) d_M_quarter_92 (by decide) (fun c_45 => ?_) (fun c_45 => ?_)
    · exact absurd c_45 (by decide)
    refine lv_aload_n hx hb d_M_quarter_95 rfl (lv_at hl 3 rfl) ?_
    refine va_get (D := D) (ci := 1) (v := .ref qu) (C := R_M) (T := T_M) (N := 7) hx hb hts (ui_M _) hown hK hP 0 rfl rfl 3 (by decide) (hts _ (gwc gw_512)) (fun _ h9 => h9) rfl d_M_quarter_96 ?_
    refine lv_iload hx hb d_M_quarter_99 (lv_at hl 0 rfl) ?_
    refine ld_l hx hb hK hP 1 2 rfl rfl 2 (by omega) (by omega) d_M_quarter_101 ?_
    refine tp_l (-65536) (rfl) ?_
    refine lv_lstore (lv' := [(5, .long (-65536)), (4, .int 2), (3, .int 2), (0, .ref hm), (1, .long k)]) hx hb d_M_quarter_102 hl (by decide) rfl (fun ls hl => ?_)
    refine lv_aload_n hx hb d_M_quarter_104 rfl (lv_at hl 3 rfl) ?_
    refine va_get (D := D) (ci := 1) (v := .ref qu) (C := R_M) (T := T_M) (N := 7) hx hb hts (ui_M _) hown hK hP 0 rfl rfl 3 (by decide) (hts _ (gwc gw_512)) (fun _ h9 => h9) rfl d_M_quarter_105 ?_
    refine lv_iload hx hb d_M_quarter_108 (lv_at hl 1 rfl) ?_
    refine lv_aload_n hx hb d_M_quarter_110 rfl (lv_at hl 3 rfl) ?_
    refine va_get (D := D) (ci := 1) (v := .ref qu) (C := R_M) (T := T_M) (N := 7) hx hb hts (ui_M _) hown hK hP 0 rfl rfl 3 (by decide) (hts _ (gwc gw_512)) (fun _ h9 => h9) rfl d_M_quarter_111 ?_
    refine lv_iload hx hb d_M_quarter_114 (lv_at hl 1 rfl) ?_
    refine lv_iconst (v := 1) hx hb d_M_quarter_116 (by decide) ?_
    refine lv_iadd hx hb d_M_quarter_117 ?_
    refine tp_i (3) (by decide) ?_
    refine ld_l hx hb hK hP 1 2 rfl rfl 3 (by omega) (by omega) d_M_quarter_118 ?_
    refine tp_l (-36195) (rfl) ?_
    refine lv_lneg hx hb d_M_quarter_119 ?_
    refine sf_l (f8 (-(-0)) (-65536) (-(-36195)) (-36195) (-36195) (-65536) (-0) (-65536)) hx hb hK hP hD hS 1 2 rfl rfl 2 f8_2 (by decide) (by decide) d_M_quarter_120 (fun H locs hP hD hS => ?_)
    have hP : va_P D cl [(hm, .inr (1, [.ref a, .ref b, .ref qa, .ref qu, .ref qb, .ref qh, .ref qm])), (qu, .inl (cJ, 8, .inr (.inl (f8 (-(-0)) (-65536) (-(-36195)) (-36195) (-36195) (-65536) (-0) (-65536)))))] H := hP
    have hD : va_D A [(hm, .inr (1, [.ref a, .ref b, .ref qa, .ref qu, .ref qb, .ref qh, .ref qm])), (qu, .inl (cJ, 8, .inr (.inl (f8 (-(-0)) (-65536) (-(-36195)) (-36195) (-36195) (-65536) (-0) (-65536)))))] := hD
    refine lv_aload_n hx hb d_M_quarter_121 rfl (lv_at hl 3 rfl) ?_
    refine va_get (D := D) (ci := 1) (v := .ref qu) (C := R_M) (T := T_M) (N := 7) hx hb hts (ui_M _) hown hK hP 0 rfl rfl 3 (by decide) (hts _ (gwc gw_512)) (fun _ h9 => h9) rfl d_M_quarter_122 ?_
    refine lv_iload hx hb d_M_quarter_125 (lv_at hl 1 rfl) ?_
    refine lv_iconst (v := 1) hx hb d_M_quarter_127 (by decide) ?_
    refine lv_iadd hx hb d_M_quarter_128 ?_
    refine tp_i (3) (by decide) ?_
    refine lv_lload hx hb d_M_quarter_129 (lv_at hl 0 rfl) ?_
    refine sf_l (f8 (-(-0)) (-65536) (-(-36195)) (-65536) (-36195) (-65536) (-0) (-65536)) hx hb hK hP hD hS 1 2 rfl rfl 3 f8_3 (by decide) (by decide) d_M_quarter_131 (fun H locs hP hD hS => ?_)
    have hP : va_P D cl [(hm, .inr (1, [.ref a, .ref b, .ref qa, .ref qu, .ref qb, .ref qh, .ref qm])), (qu, .inl (cJ, 8, .inr (.inl (f8 (-(-0)) (-65536) (-(-36195)) (-65536) (-36195) (-65536) (-0) (-65536)))))] H := hP
    have hD : va_D A [(hm, .inr (1, [.ref a, .ref b, .ref qa, .ref qu, .ref qb, .ref qh, .ref qm])), (qu, .inl (cJ, 8, .inr (.inl (f8 (-(-0)) (-65536) (-(-36195)) (-65536) (-36195) (-65536) (-0) (-65536)))))] := hD
    refine lv_iinc (v := 4) (lv' := [(4, .int 4), (5, .long (-65536)), (3, .int 2), (0, .ref hm), (1, .long k)]) hx hb d_M_quarter_132 hl (k := 1) rfl (by first | exact nI_add _ 2 | rfl | decide) (by decide) rfl (fun ls hl => ?_)
    refine lv_goto (tgt := 88) hx hb d_M_quarter_135 (by decide) ?_
    refine lv_iload hx hb d_M_quarter_88 (lv_at hl 0 rfl) ?_
    refine lv_bipush (v := 8) hx hb d_M_quarter_90 (by decide) ?_
    refine bn_ge (a1 := 4) (b1 := 8) (tgt := 138) hx hb (by omega) (by omega) d_M_quarter_92 (by decide) (fun c_46 => ?_) (fun c_46 => ?_)
    · exact absurd c_46 (by decide)
    refine lv_aload_n hx hb d_M_quarter_95 rfl (lv_at hl 3 rfl) ?_
    refine va_get (D := D) (ci := 1) (v := .ref qu) (C := R_M) (T := T_M) (N := 7) hx hb hts (ui_M _) hown hK hP 0 rfl rfl 3 (by decide) (hts _ (gwc gw_512)) (fun _ h9 => h9) rfl d_M_quarter_96 ?_
    refine lv_iload hx hb d_M_quarter_99 (lv_at hl 0 rfl) ?_
    refine ld_l hx hb hK hP 1 2 rfl rfl 4 (by omega) (by omega) d_M_quarter_101 ?_
    refine tp_l (-36195) (rfl) ?_
    refine lv_lstore (lv' := [(5, .long (-36195)), (4, .int 4), (3, .int 2), (0, .ref hm), (1, .long k)]) hx hb d_M_quarter_102 hl (by decide) rfl (fun ls hl => ?_)
    refine lv_aload_n hx hb d_M_quarter_104 rfl (lv_at hl 3 rfl) ?_
    refine va_get (D := D) (ci := 1) (v := .ref qu) (C := R_M) (T := T_M) (N := 7) hx hb hts (ui_M _) hown hK hP 0 rfl rfl 3 (by decide) (hts _ (gwc gw_512)) (fun _ h9 => h9) rfl d_M_quarter_105 ?_
    refine lv_iload hx hb d_M_quarter_108 (lv_at hl 1 rfl) ?_
    refine lv_aload_n hx hb d_M_quarter_110 rfl (lv_at hl 3 rfl) ?_
    refine va_get (D := D) (ci := 1) (v := .ref qu) (C := R_M) (T := T_M) (N := 7) hx hb hts (ui_M _) hown hK hP 0 rfl rfl 3 (by decide) (hts _ (gwc gw_512)) (fun _ h9 => h9) rfl d_M_quarter_111 ?_
    refine lv_iload hx hb d_M_quarter_114 (lv_at hl 1 rfl) ?_
    refine lv_iconst (v := 1) hx hb d_M_quarter_116 (by decide) ?_
    refine lv_iadd hx hb d_M_quarter_117 ?_
    refine tp_i (5) (by decide) ?_
    refine ld_l hx hb hK hP 1 2 rfl rfl 5 (by omega) (by omega) d_M_quarter_118 ?_
    refine tp_l (-65536) (rfl) ?_
    refine lv_lneg hx hb d_M_quarter_119 ?_
    refine sf_l (f8 (-(-0)) (-65536) (-(-36195)) (-65536) (-(-65536)) (-65536) (-0) (-65536)) hx hb hK hP hD hS 1 2 rfl rfl 4 f8_4 (by decide) (by decide) d_M_quarter_120 (fun H locs hP hD hS => ?_)
    have hP : va_P D cl [(hm, .inr (1, [.ref a, .ref b, .ref qa, .ref qu, .ref qb, .ref qh, .ref qm])), (qu, .inl (cJ, 8, .inr (.inl (f8 (-(-0)) (-65536) (-(-36195)) (-65536) (-(-65536)) (-65536) (-0) (-65536)))))] H := hP
    have hD : va_D A [(hm, .inr (1, [.ref a, .ref b, .ref qa, .ref qu, .ref qb, .ref qh, .ref qm])), (qu, .inl (cJ, 8, .inr (.inl (f8 (-(-0)) (-65536) (-(-36195)) (-65536) (-(-65536)) (-65536) (-0) (-65536)))))] := hD
    refine lv_aload_n hx hb d_M_quarter_121 rfl (lv_at hl 3 rfl) ?_
    refine va_get (D := D) (ci := 1) (v := .ref qu) (C := R_M) (T := T_M) (N := 7) hx hb hts (ui_M _) hown hK hP 0 rfl rfl 3 (by decide) (hts _ (gwc gw_512)) (fun _ h9 => h9) rfl d_M_quarter_122 ?_
    refine lv_iload hx hb d_M_quarter_125 (lv_at hl 1 rfl) ?_
    refine lv_iconst (v := 1) hx hb d_M_quarter_127 (by decide) ?_
    refine lv_iadd hx hb d_M_quarter_128 ?_
    refine tp_i (5) (by decide) ?_
    refine lv_lload hx hb d_M_quarter_129 (lv_at hl 0 rfl) ?_
    refine sf_l (f8 (-(-0)) (-65536) (-(-36195)) (-65536) (-(-65536)) (-36195) (-0) (-65536)) hx hb hK hP hD hS 1 2 rfl rfl 5 f8_5 (by decide) (by decide) d_M_quarter_131 (fun H locs hP hD hS => ?_)
    have hP : va_P D cl [(hm, .inr (1, [.ref a, .ref b, .ref qa, .ref qu, .ref qb, .ref qh, .ref qm])), (qu, .inl (cJ, 8, .inr (.inl (f8 (-(-0)) (-65536) (-(-36195)) (-65536) (-(-65536)) (-36195) (-0) (-65536)))))] H := hP
    have hD : va_D A [(hm, .inr (1, [.ref a, .ref b, .ref qa, .ref qu, .ref qb, .ref qh, .ref qm])), (qu, .inl (cJ, 8, .inr (.inl (f8 (-(-0)) (-65536) (-(-36195)) (-65536) (-(-65536)) (-36195) (-0) (-65536)))))] := hD
    refine lv_iinc (v := 6) (lv' := [(4, .int 6), (5, .long (-36195)), (3, .int 2), (0, .ref hm), (1, .long k)]) hx hb d_M_quarter_132 hl (k := 1) rfl (by first | exact nI_add _ 2 | rfl | decide) (by decide) rfl (fun ls hl => ?_)
    refine lv_goto (tgt := 88) hx hb d_M_quarter_135 (by decide) ?_
    refine lv_iload hx hb d_M_quarter_88 (lv_at hl 0 rfl) ?_
    refine lv_bipush (v := 8) hx hb d_M_quarter_90 (by decide) ?_
    refine bn_ge (a1 := 6) (b1 := 8) (tgt := 138) hx hb (by omega) (by omega) d_M_quarter_92 (by decide) (fun c_47 => ?_) (fun c_47 => ?_)
    · exact absurd c_47 (by decide)
    refine lv_aload_n hx hb d_M_quarter_95 rfl (lv_at hl 3 rfl) ?_
    refine va_get (D := D) (ci := 1) (v := .ref qu) (C := R_M) (T := T_M) (N := 7) hx hb hts (ui_M _) hown hK hP 0 rfl rfl 3 (by decide) (hts _ (gwc gw_512)) (fun _ h9 => h9) rfl d_M_quarter_96 ?_
    refine lv_iload hx hb d_M_quarter_99 (lv_at hl 0 rfl) ?_
    refine ld_l hx hb hK hP 1 2 rfl rfl 6 (by omega) (by omega) d_M_quarter_101 ?_
    refine tp_l (-0) (rfl) ?_
    refine lv_lstore (lv' := [(5, .long (-0)), (4, .int 6), (3, .int 2), (0, .ref hm), (1, .long k)]) hx hb d_M_quarter_102 hl (by decide) rfl (fun ls hl => ?_)
    refine lv_aload_n hx hb d_M_quarter_104 rfl (lv_at hl 3 rfl) ?_
    refine va_get (D := D) (ci := 1) (v := .ref qu) (C := R_M) (T := T_M) (N := 7) hx hb hts (ui_M _) hown hK hP 0 rfl rfl 3 (by decide) (hts _ (gwc gw_512)) (fun _ h9 => h9) rfl d_M_quarter_105 ?_
    refine lv_iload hx hb d_M_quarter_108 (lv_at hl 1 rfl) ?_
    refine lv_aload_n hx hb d_M_quarter_110 rfl (lv_at hl 3 rfl) ?_
    refine va_get (D := D) (ci := 1) (v := .ref qu) (C := R_M) (T := T_M) (N := 7) hx hb hts (ui_M _) hown hK hP 0 rfl rfl 3 (by decide) (hts _ (gwc gw_512)) (fun _ h9 => h9) rfl d_M_quarter_111 ?_
    refine lv_iload hx hb d_M_quarter_114 (lv_at hl 1 rfl) ?_
    refine lv_iconst (v := 1) hx hb d_M_quarter_116 (by decide) ?_
    refine lv_iadd hx hb d_M_quarter_117 ?_
    refine tp_i (7) (by decide) ?_
    refine ld_l hx hb hK hP 1 2 rfl rfl 7 (by omega) (by omega) d_M_quarter_118 ?_
    refine tp_l (-65536) (rfl) ?_
    refine lv_lneg hx hb d_M_quarter_119 ?_
    refine sf_l (f8 (-(-0)) (-65536) (-(-36195)) (-65536) (-(-65536)) (-36195) (-(-65536)) (-65536)) hx hb hK hP hD hS 1 2 rfl rfl 6 f8_6 (by decide) (by decide) d_M_quarter_120 (fun H locs hP hD hS => ?_)
    have hP : va_P D cl [(hm, .inr (1, [.ref a, .ref b, .ref qa, .ref qu, .ref qb, .ref qh, .ref qm])), (qu, .inl (cJ, 8, .inr (.inl (f8 (-(-0)) (-65536) (-(-36195)) (-65536) (-(-65536)) (-36195) (-(-65536)) (-65536)))))] H := hP
    have hD : va_D A [(hm, .inr (1, [.ref a, .ref b, .ref qa, .ref qu, .ref qb, .ref qh, .ref qm])), (qu, .inl (cJ, 8, .inr (.inl (f8 (-(-0)) (-65536) (-(-36195)) (-65536) (-(-65536)) (-36195) (-(-65536)) (-65536)))))] := hD
    refine lv_aload_n hx hb d_M_quarter_121 rfl (lv_at hl 3 rfl) ?_
    refine va_get (D := D) (ci := 1) (v := .ref qu) (C := R_M) (T := T_M) (N := 7) hx hb hts (ui_M _) hown hK hP 0 rfl rfl 3 (by decide) (hts _ (gwc gw_512)) (fun _ h9 => h9) rfl d_M_quarter_122 ?_
    refine lv_iload hx hb d_M_quarter_125 (lv_at hl 1 rfl) ?_
    refine lv_iconst (v := 1) hx hb d_M_quarter_127 (by decide) ?_
    refine lv_iadd hx hb d_M_quarter_128 ?_
    refine tp_i (7) (by decide) ?_
    refine lv_lload hx hb d_M_quarter_129 (lv_at hl 0 rfl) ?_
    refine sf_l (f8 (-(-0)) (-65536) (-(-36195)) (-65536) (-(-65536)) (-36195) (-(-65536)) (-0)) hx hb hK hP hD hS 1 2 rfl rfl 7 f8_7 (by decide) (by decide) d_M_quarter_131 (fun H locs hP hD hS => ?_)
    have hP : va_P D cl [(hm, .inr (1, [.ref a, .ref b, .ref qa, .ref qu, .ref qb, .ref qh, .ref qm])), (qu, .inl (cJ, 8, .inr (.inl (f8 (-(-0)) (-65536) (-(-36195)) (-65536) (-(-65536)) (-36195) (-(-65536)) (-0)))))] H := hP
    have hD : va_D A [(hm, .inr (1, [.ref a, .ref b, .ref qa, .ref qu, .ref qb, .ref qh, .ref qm])), (qu, .inl (cJ, 8, .inr (.inl (f8 (-(-0)) (-65536) (-(-36195)) (-65536) (-(-65536)) (-36195) (-(-65536)) (-0)))))] := hD
    refine lv_iinc (v := 8) (lv' := [(4, .int 8), (5, .long (-0)), (3, .int 2), (0, .ref hm), (1, .long k)]) hx hb d_M_quarter_132 hl (k := 1) rfl (by first | exact nI_add _ 2 | rfl | decide) (by decide) rfl (fun ls hl => ?_)
    refine lv_goto (tgt := 88) hx hb d_M_quarter_135 (by decide) ?_
    refine lv_iload hx hb d_M_quarter_88 (lv_at hl 0 rfl) ?_
    refine lv_bipush (v := 8) hx hb d_M_quarter_90 (by decide) ?_
    refine bn_ge (a1 := 8) (b1 := 8) (tgt := 138) hx hb (by omega) (by omega) d_M_quarter_92 (by decide) (fun c_48 => ?_) (fun c_48 => ?_)
    rotate_left
    · exact absurd c_48 (by decide)
    refine lv_iinc (v := 3) (lv' := [(3, .int 3), (4, .int 8), (5, .long (-0)), (0, .ref hm), (1, .long k)]) hx hb d_M_quarter_138 hl (k := 2) rfl (by first | exact nI_add _ 1 | rfl | decide) (by decide) rfl (fun ls hl => ?_)
    refine lv_goto (tgt := 72) hx hb d_M_quarter_141 (by decide) ?_
    refine lv_iload_n hx hb d_M_quarter_72 rfl (lv_at hl 0 rfl) ?_
    refine lv_i2l (v := 3) hx hb d_M_quarter_73 (by decide) ?_
    refine lv_lload_n hx hb d_M_quarter_74 rfl (lv_at hl 4 rfl) ?_
    refine lv_ldc2 (v := 4) hx hb hown (hts _ (gwc gw_641)) d_M_quarter_75 ?_
    refine ct_callS (av := [.long k, .long 4]) (rest := [.long 3]) (wr := [(hm, .inr (1, [.ref a, .ref b, .ref qa, .ref qu, .ref qb, .ref qh, .ref qm])), (qu, .inl (cJ, 8, .inr (.inl (f8 (-(-0)) (-65536) (-(-36195)) (-65536) (-(-65536)) (-36195) (-(-65536)) (-0)))))]) (n := 2) (c_floorMod l D cI cB cJ qQ  k 4 (by decide)) hx hb hml hown hts (amb_ok qQ) hK hP hD hS hA hM (gi_S gw_629 gw_250 gw_35 gw_251) rfl (by decide +kernel) ⟨by omega, by omega⟩ [] [0, 1] rfl rfl rfl rfl (by decide) rfl hl.1 rfl (Nat.le_of_ble_eq_true rfl) d_M_quarter_78 ⟨by omega, by omega⟩ (fun u_49 H locs hok hP hD hS => ?_)
    have hP : va_P D cl [(hm, .inr (1, [.ref a, .ref b, .ref qa, .ref qu, .ref qb, .ref qh, .ref qm])), (qu, .inl (cJ, 8, .inr (.inl (f8 (-(-0)) (-65536) (-(-36195)) (-65536) (-(-65536)) (-36195) (-(-65536)) (-0)))))] H := hP
    have hD : va_D A [(hm, .inr (1, [.ref a, .ref b, .ref qa, .ref qu, .ref qb, .ref qh, .ref qm])), (qu, .inl (cJ, 8, .inr (.inl (f8 (-(-0)) (-65536) (-(-36195)) (-65536) (-(-65536)) (-36195) (-(-65536)) (-0)))))] := hD
    refine W.eq (g2 := F0 m 81 ls [.long (fmd k 4), .long 3]) rfl ?_
    refine tp_l (3) (h_) ?_
    refine W.lcmp hx hb d_M_quarter_81 ?_
    refine lc_ge (tgt := 144) hx hb d_M_quarter_82 (by decide) (fun c_50 => ?_) (fun c_50 => ?_)
    rotate_left
    · exact absurd c_50 (by decide)
    exact ct_retv hQ hx hb hr hlocks hP hD hS (-(-0), -65536, -(-36195), -65536, -(-65536), -36195, -(-65536), -0) [(hm, .inr (1, [.ref a, .ref b, .ref qa, .ref qu, .ref qb, .ref qh, .ref qm])), (qu, .inl (cJ, 8, .inr (.inl (f8 (-(-0)) (-65536) (-(-36195)) (-65536) (-(-65536)) (-36195) (-(-65536)) (-0)))))] [0, 1] (rfl) (by rw [h_]; first | exact rfl | (dsimp only; decide)) (rfl) rfl rfl (by omega) (by omega) d_M_quarter_144
set_option maxHeartbeats 40000000 in
set_option maxRecDepth 100000 in
/-- part -/
theorem c_M_part (l : Launch) (D : va_G) (cI cB cJ : ClassId) (qQ : Nat) (hm : Nat) (a : Nat) (b : Nat) (qa : Nat) (qu : Nat) (qb : Nat) (qh : Nat) (qm : Nat) (u0 : Int64) (u1 : Int64) (u2 : Int64) (u3 : Int64) (u4 : Int64) (u5 : Int64) (u6 : Int64) (u7 : Int64) (v0 : Int64) (v1 : Int64) (v2 : Int64) (v3 : Int64) (v4 : Int64) (v5 : Int64) (v6 : Int64) (v7 : Int64) (w0 : Int64) (w1 : Int64) (w2 : Int64) (w3 : Int64) (w4 : Int64) (w5 : Int64) (w6 : Int64) (w7 : Int64) (g0 : Int64) (g1 : Int64) (g2 : Int64) (g3 : Int64) (g4 : Int64) (g5 : Int64) (g6 : Int64) (g7 : Int64) (t : Int64)  : ct l D cl [(cI, .int), (cB, .byte), (cJ, .long)] (amb qQ) y_M_part w_M_part 2 50 (0) (0) [.ref hm, .long t] [(hm, .inr (1, [.ref a, .ref b, .ref qa, .ref qu, .ref qb, .ref qh, .ref qm])), (qu, .inl (cJ, 8, .inr (.inl (f8 u0 u1 u2 u3 u4 u5 u6 u7)))), (qb, .inl (cJ, 8, .inr (.inl (f8 v0 v1 v2 v3 v4 v5 v6 v7)))), (qh, .inl (cJ, 8, .inr (.inl (f8 w0 w1 w2 w3 w4 w5 w6 w7)))), (qm, .inl (cJ, 8, .inr (.inl (f8 g0 g1 g2 g3 g4 g5 g6 g7))))] (fun u_ : Int64 × Int64 × Int64 × Int64 × Int64 × Int64 × Int64 × Int64 => match u_ with | (g0', g1', g2', g3', g4', g5', g6', g7') => True) (fun u_ : Int64 × Int64 × Int64 × Int64 × Int64 × Int64 × Int64 × Int64 => match u_ with | (g0', g1', g2', g3', g4', g5', g6', g7') => none) (fun u_ : Int64 × Int64 × Int64 × Int64 × Int64 × Int64 × Int64 × Int64 => match u_ with | (g0', g1', g2', g3', g4', g5', g6', g7') => [(hm, .inr (1, [.ref a, .ref b, .ref qa, .ref qu, .ref qb, .ref qh, .ref qm])), (qu, .inl (cJ, 8, .inr (.inl (f8 u0 u1 u2 u3 u4 u5 u6 u7)))), (qb, .inl (cJ, 8, .inr (.inl (f8 u0 u1 (mixL u0 u2 t) (mixL u1 u3 t) (mx2 u0 u2 u4 t) (mx2 u1 u3 u5 t) (mx3 u0 u2 u4 u6 t) (mx3 u1 u3 u5 u7 t))))), (qh, .inl (cJ, 8, .inr (.inl (f8 (mx3 u0 u2 u4 u6 t) (mx3 u1 u3 u5 u7 t) (mx2 u2 u4 u6 t) (mx2 u3 u5 u7 t) (mixL u4 u6 t) (mixL u5 u7 t) u6 u7)))), (qm, .inl (cJ, 8, .inr (.inl (f8 g0' g1' g2' g3' g4' g5' g6' g7'))))]) := by
  refine ct_ofW (cc := b_M_part) (maxL := 5) (ret := none) (by decide) rfl (Nat.le_of_ble_eq_true rfl) ?_
  intro p e R s m args below meth c A Q ls hx hb hr hml hts hown hlocks hname hRf hRc hRs hRl hQ hK hP hD hS hA hM hl
  have hl : lv_has ls 5 [(0, .ref hm), (1, .long t)] := hl
  refine lv_iconst (v := 0) hx hb d_M_part_0 (by decide) ?_
  refine lv_istore_n (lv' := [(3, .int 0), (0, .ref hm), (1, .long t)]) hx hb d_M_part_1 rfl hl (by decide) rfl (fun ls hl => ?_)
  refine lv_iload_n hx hb d_M_part_2 rfl (lv_at hl 0 rfl) ?_
  refine lv_bipush (v := 8) hx hb d_M_part_3 (by decide) ?_
  refine bn_ge (a1 := 0) (b1 := 8) (tgt := 26) hx hb (by omega) (by omega) d_M_part_5 (by decide) (fun c_1 => ?_) (fun c_1 => ?_)
  · exact absurd c_1 (by decide)
  refine lv_aload_n hx hb d_M_part_8 rfl (lv_at hl 1 rfl) ?_
  refine va_get (D := D) (ci := 1) (v := .ref qm) (C := R_M) (T := T_M) (N := 7) hx hb hts (ui_M _) hown hK hP 0 rfl rfl 6 (by decide) (hts _ (gwc gw_515)) (fun _ h9 => h9) rfl d_M_part_9 ?_
  refine lv_iload_n hx hb d_M_part_12 rfl (lv_at hl 0 rfl) ?_
  refine lv_aload_n hx hb d_M_part_13 rfl (lv_at hl 1 rfl) ?_
  refine va_get (D := D) (ci := 1) (v := .ref qu) (C := R_M) (T := T_M) (N := 7) hx hb hts (ui_M _) hown hK hP 0 rfl rfl 3 (by decide) (hts _ (gwc gw_512)) (fun _ h9 => h9) rfl d_M_part_14 ?_
  refine lv_iload_n hx hb d_M_part_17 rfl (lv_at hl 0 rfl) ?_
  refine ld_l hx hb hK hP 1 2 rfl rfl 0 (by omega) (by omega) d_M_part_18 ?_
  refine tp_l (u0) (rfl) ?_
  refine sf_l (f8 u0 g1 g2 g3 g4 g5 g6 g7) hx hb hK hP hD hS 4 2 rfl rfl 0 f8_0 (by decide) (by decide) d_M_part_19 (fun H locs hP hD hS => ?_)
  have hP : va_P D cl [(hm, .inr (1, [.ref a, .ref b, .ref qa, .ref qu, .ref qb, .ref qh, .ref qm])), (qu, .inl (cJ, 8, .inr (.inl (f8 u0 u1 u2 u3 u4 u5 u6 u7)))), (qb, .inl (cJ, 8, .inr (.inl (f8 v0 v1 v2 v3 v4 v5 v6 v7)))), (qh, .inl (cJ, 8, .inr (.inl (f8 w0 w1 w2 w3 w4 w5 w6 w7)))), (qm, .inl (cJ, 8, .inr (.inl (f8 u0 g1 g2 g3 g4 g5 g6 g7))))] H := hP
  have hD : va_D A [(hm, .inr (1, [.ref a, .ref b, .ref qa, .ref qu, .ref qb, .ref qh, .ref qm])), (qu, .inl (cJ, 8, .inr (.inl (f8 u0 u1 u2 u3 u4 u5 u6 u7)))), (qb, .inl (cJ, 8, .inr (.inl (f8 v0 v1 v2 v3 v4 v5 v6 v7)))), (qh, .inl (cJ, 8, .inr (.inl (f8 w0 w1 w2 w3 w4 w5 w6 w7)))), (qm, .inl (cJ, 8, .inr (.inl (f8 u0 g1 g2 g3 g4 g5 g6 g7))))] := hD
  refine lv_iinc (v := 1) (lv' := [(3, .int 1), (0, .ref hm), (1, .long t)]) hx hb d_M_part_20 hl (k := 0) rfl (by first | exact nI_add _ 1 | rfl | decide) (by decide) rfl (fun ls hl => ?_)
  refine lv_goto (tgt := 2) hx hb d_M_part_23 (by decide) ?_
  refine lv_iload_n hx hb d_M_part_2 rfl (lv_at hl 0 rfl) ?_
  refine lv_bipush (v := 8) hx hb d_M_part_3 (by decide) ?_
  refine bn_ge (a1 := 1) (b1 := 8) (tgt := 26) hx hb (by omega) (by omega) d_M_part_5 (by decide) (fun c_2 => ?_) (fun c_2 => ?_)
  · exact absurd c_2 (by decide)
  refine lv_aload_n hx hb d_M_part_8 rfl (lv_at hl 1 rfl) ?_
  refine va_get (D := D) (ci := 1) (v := .ref qm) (C := R_M) (T := T_M) (N := 7) hx hb hts (ui_M _) hown hK hP 0 rfl rfl 6 (by decide) (hts _ (gwc gw_515)) (fun _ h9 => h9) rfl d_M_part_9 ?_
  refine lv_iload_n hx hb d_M_part_12 rfl (lv_at hl 0 rfl) ?_
  refine lv_aload_n hx hb d_M_part_13 rfl (lv_at hl 1 rfl) ?_
  refine va_get (D := D) (ci := 1) (v := .ref qu) (C := R_M) (T := T_M) (N := 7) hx hb hts (ui_M _) hown hK hP 0 rfl rfl 3 (by decide) (hts _ (gwc gw_512)) (fun _ h9 => h9) rfl d_M_part_14 ?_
  refine lv_iload_n hx hb d_M_part_17 rfl (lv_at hl 0 rfl) ?_
  refine ld_l hx hb hK hP 1 2 rfl rfl 1 (by omega) (by omega) d_M_part_18 ?_
  refine tp_l (u1) (rfl) ?_
  refine sf_l (f8 u0 u1 g2 g3 g4 g5 g6 g7) hx hb hK hP hD hS 4 2 rfl rfl 1 f8_1 (by decide) (by decide) d_M_part_19 (fun H locs hP hD hS => ?_)
  have hP : va_P D cl [(hm, .inr (1, [.ref a, .ref b, .ref qa, .ref qu, .ref qb, .ref qh, .ref qm])), (qu, .inl (cJ, 8, .inr (.inl (f8 u0 u1 u2 u3 u4 u5 u6 u7)))), (qb, .inl (cJ, 8, .inr (.inl (f8 v0 v1 v2 v3 v4 v5 v6 v7)))), (qh, .inl (cJ, 8, .inr (.inl (f8 w0 w1 w2 w3 w4 w5 w6 w7)))), (qm, .inl (cJ, 8, .inr (.inl (f8 u0 u1 g2 g3 g4 g5 g6 g7))))] H := hP
  have hD : va_D A [(hm, .inr (1, [.ref a, .ref b, .ref qa, .ref qu, .ref qb, .ref qh, .ref qm])), (qu, .inl (cJ, 8, .inr (.inl (f8 u0 u1 u2 u3 u4 u5 u6 u7)))), (qb, .inl (cJ, 8, .inr (.inl (f8 v0 v1 v2 v3 v4 v5 v6 v7)))), (qh, .inl (cJ, 8, .inr (.inl (f8 w0 w1 w2 w3 w4 w5 w6 w7)))), (qm, .inl (cJ, 8, .inr (.inl (f8 u0 u1 g2 g3 g4 g5 g6 g7))))] := hD
  refine lv_iinc (v := 2) (lv' := [(3, .int 2), (0, .ref hm), (1, .long t)]) hx hb d_M_part_20 hl (k := 0) rfl (by first | exact nI_add _ 1 | rfl | decide) (by decide) rfl (fun ls hl => ?_)
  refine lv_goto (tgt := 2) hx hb d_M_part_23 (by decide) ?_
  refine lv_iload_n hx hb d_M_part_2 rfl (lv_at hl 0 rfl) ?_
  refine lv_bipush (v := 8) hx hb d_M_part_3 (by decide) ?_
  refine bn_ge (a1 := 2) (b1 := 8) (tgt := 26) hx hb (by omega) (by omega) d_M_part_5 (by decide) (fun c_3 => ?_) (fun c_3 => ?_)
  · exact absurd c_3 (by decide)
  refine lv_aload_n hx hb d_M_part_8 rfl (lv_at hl 1 rfl) ?_
  refine va_get (D := D) (ci := 1) (v := .ref qm) (C := R_M) (T := T_M) (N := 7) hx hb hts (ui_M _) hown hK hP 0 rfl rfl 6 (by decide) (hts _ (gwc gw_515)) (fun _ h9 => h9) rfl d_M_part_9 ?_
  refine lv_iload_n hx hb d_M_part_12 rfl (lv_at hl 0 rfl) ?_
  refine lv_aload_n hx hb d_M_part_13 rfl (lv_at hl 1 rfl) ?_
  refine va_get (D := D) (ci := 1) (v := .ref qu) (C := R_M) (T := T_M) (N := 7) hx hb hts (ui_M _) hown hK hP 0 rfl rfl 3 (by decide) (hts _ (gwc gw_512)) (fun _ h9 => h9) rfl d_M_part_14 ?_
  refine lv_iload_n hx hb d_M_part_17 rfl (lv_at hl 0 rfl) ?_
  refine ld_l hx hb hK hP 1 2 rfl rfl 2 (by omega) (by omega) d_M_part_18 ?_
  refine tp_l (u2) (rfl) ?_
  refine sf_l (f8 u0 u1 u2 g3 g4 g5 g6 g7) hx hb hK hP hD hS 4 2 rfl rfl 2 f8_2 (by decide) (by decide) d_M_part_19 (fun H locs hP hD hS => ?_)
  have hP : va_P D cl [(hm, .inr (1, [.ref a, .ref b, .ref qa, .ref qu, .ref qb, .ref qh, .ref qm])), (qu, .inl (cJ, 8, .inr (.inl (f8 u0 u1 u2 u3 u4 u5 u6 u7)))), (qb, .inl (cJ, 8, .inr (.inl (f8 v0 v1 v2 v3 v4 v5 v6 v7)))), (qh, .inl (cJ, 8, .inr (.inl (f8 w0 w1 w2 w3 w4 w5 w6 w7)))), (qm, .inl (cJ, 8, .inr (.inl (f8 u0 u1 u2 g3 g4 g5 g6 g7))))] H := hP
  have hD : va_D A [(hm, .inr (1, [.ref a, .ref b, .ref qa, .ref qu, .ref qb, .ref qh, .ref qm])), (qu, .inl (cJ, 8, .inr (.inl (f8 u0 u1 u2 u3 u4 u5 u6 u7)))), (qb, .inl (cJ, 8, .inr (.inl (f8 v0 v1 v2 v3 v4 v5 v6 v7)))), (qh, .inl (cJ, 8, .inr (.inl (f8 w0 w1 w2 w3 w4 w5 w6 w7)))), (qm, .inl (cJ, 8, .inr (.inl (f8 u0 u1 u2 g3 g4 g5 g6 g7))))] := hD
  refine lv_iinc (v := 3) (lv' := [(3, .int 3), (0, .ref hm), (1, .long t)]) hx hb d_M_part_20 hl (k := 0) rfl (by first | exact nI_add _ 1 | rfl | decide) (by decide) rfl (fun ls hl => ?_)
  refine lv_goto (tgt := 2) hx hb d_M_part_23 (by decide) ?_
  refine lv_iload_n hx hb d_M_part_2 rfl (lv_at hl 0 rfl) ?_
  refine lv_bipush (v := 8) hx hb d_M_part_3 (by decide) ?_
  refine bn_ge (a1 := 3) (b1 := 8) (tgt := 26) hx hb (by omega) (by omega) d_M_part_5 (by decide) (fun c_4 => ?_) (fun c_4 => ?_)
  · exact absurd c_4 (by decide)
  refine lv_aload_n hx hb d_M_part_8 rfl (lv_at hl 1 rfl) ?_
  refine va_get (D := D) (ci := 1) (v := .ref qm) (C := R_M) (T := T_M) (N := 7) hx hb hts (ui_M _) hown hK hP 0 rfl rfl 6 (by decide) (hts _ (gwc gw_515)) (fun _ h9 => h9) rfl d_M_part_9 ?_
  refine lv_iload_n hx hb d_M_part_12 rfl (lv_at hl 0 rfl) ?_
  refine lv_aload_n hx hb d_M_part_13 rfl (lv_at hl 1 rfl) ?_
  refine va_get (D := D) (ci := 1) (v := .ref qu) (C := R_M) (T := T_M) (N := 7) hx hb hts (ui_M _) hown hK hP 0 rfl rfl 3 (by decide) (hts _ (gwc gw_512)) (fun _ h9 => h9) rfl d_M_part_14 ?_
  refine lv_iload_n hx hb d_M_part_17 rfl (lv_at hl 0 rfl) ?_
  refine ld_l hx hb hK hP 1 2 rfl rfl 3 (by omega) (by omega) d_M_part_18 ?_
  refine tp_l (u3) (rfl) ?_
  refine sf_l (f8 u0 u1 u2 u3 g4 g5 g6 g7) hx hb hK hP hD hS 4 2 rfl rfl 3 f8_3 (by decide) (by decide) d_M_part_19 (fun H locs hP hD hS => ?_)
  have hP : va_P D cl [(hm, .inr (1, [.ref a, .ref b, .ref qa, .ref qu, .ref qb, .ref qh, .ref qm])), (qu, .inl (cJ, 8, .inr (.inl (f8 u0 u1 u2 u3 u4 u5 u6 u7)))), (qb, .inl (cJ, 8, .inr (.inl (f8 v0 v1 v2 v3 v4 v5 v6 v7)))), (qh, .inl (cJ, 8, .inr (.inl (f8 w0 w1 w2 w3 w4 w5 w6 w7)))), (qm, .inl (cJ, 8, .inr (.inl (f8 u0 u1 u2 u3 g4 g5 g6 g7))))] H := hP
  have hD : va_D A [(hm, .inr (1, [.ref a, .ref b, .ref qa, .ref qu, .ref qb, .ref qh, .ref qm])), (qu, .inl (cJ, 8, .inr (.inl (f8 u0 u1 u2 u3 u4 u5 u6 u7)))), (qb, .inl (cJ, 8, .inr (.inl (f8 v0 v1 v2 v3 v4 v5 v6 v7)))), (qh, .inl (cJ, 8, .inr (.inl (f8 w0 w1 w2 w3 w4 w5 w6 w7)))), (qm, .inl (cJ, 8, .inr (.inl (f8 u0 u1 u2 u3 g4 g5 g6 g7))))] := hD
  refine lv_iinc (v := 4) (lv' := [(3, .int 4), (0, .ref hm), (1, .long t)]) hx hb d_M_part_20 hl (k := 0) rfl (by first | exact nI_add _ 1 | rfl | decide) (by decide) rfl (fun ls hl => ?_)
  refine lv_goto (tgt := 2) hx hb d_M_part_23 (by decide) ?_
  refine lv_iload_n hx hb d_M_part_2 rfl (lv_at hl 0 rfl) ?_
  refine lv_bipush (v := 8) hx hb d_M_part_3 (by decide) ?_
  refine bn_ge (a1 := 4) (b1 := 8) (tgt := 26) hx hb (by omega) (by omega) d_M_part_5 (by decide) (fun c_5 => ?_) (fun c_5 => ?_)
  · exact absurd c_5 (by decide)
  refine lv_aload_n hx hb d_M_part_8 rfl (lv_at hl 1 rfl) ?_
  refine va_get (D := D) (ci := 1) (v := .ref qm) (C := R_M) (T := T_M) (N := 7) hx hb hts (ui_M _) hown hK hP 0 rfl rfl 6 (by decide) (hts _ (gwc gw_515)) (fun _ h9 => h9) rfl d_M_part_9 ?_
  refine lv_iload_n hx hb d_M_part_12 rfl (lv_at hl 0 rfl) ?_
  refine lv_aload_n hx hb d_M_part_13 rfl (lv_at hl 1 rfl) ?_
  refine va_get (D := D) (ci := 1) (v := .ref qu) (C := R_M) (T := T_M) (N := 7) hx hb hts (ui_M _) hown hK hP 0 rfl rfl 3 (by decide) (hts _ (gwc gw_512)) (fun _ h9 => h9) rfl d_M_part_14 ?_
  refine lv_iload_n hx hb d_M_part_17 rfl (lv_at hl 0 rfl) ?_
  refine ld_l hx hb hK hP 1 2 rfl rfl 4 (by omega) (by omega) d_M_part_18 ?_
  refine tp_l (u4) (rfl) ?_
  refine sf_l (f8 u0 u1 u2 u3 u4 g5 g6 g7) hx hb hK hP hD hS 4 2 rfl rfl 4 f8_4 (by decide) (by decide) d_M_part_19 (fun H locs hP hD hS => ?_)
  have hP : va_P D cl [(hm, .inr (1, [.ref a, .ref b, .ref qa, .ref qu, .ref qb, .ref qh, .ref qm])), (qu, .inl (cJ, 8, .inr (.inl (f8 u0 u1 u2 u3 u4 u5 u6 u7)))), (qb, .inl (cJ, 8, .inr (.inl (f8 v0 v1 v2 v3 v4 v5 v6 v7)))), (qh, .inl (cJ, 8, .inr (.inl (f8 w0 w1 w2 w3 w4 w5 w6 w7)))), (qm, .inl (cJ, 8, .inr (.inl (f8 u0 u1 u2 u3 u4 g5 g6 g7))))] H := hP
  have hD : va_D A [(hm, .inr (1, [.ref a, .ref b, .ref qa, .ref qu, .ref qb, .ref qh, .ref qm])), (qu, .inl (cJ, 8, .inr (.inl (f8 u0 u1 u2 u3 u4 u5 u6 u7)))), (qb, .inl (cJ, 8, .inr (.inl (f8 v0 v1 v2 v3 v4 v5 v6 v7)))), (qh, .inl (cJ, 8, .inr (.inl (f8 w0 w1 w2 w3 w4 w5 w6 w7)))), (qm, .inl (cJ, 8, .inr (.inl (f8 u0 u1 u2 u3 u4 g5 g6 g7))))] := hD
  refine lv_iinc (v := 5) (lv' := [(3, .int 5), (0, .ref hm), (1, .long t)]) hx hb d_M_part_20 hl (k := 0) rfl (by first | exact nI_add _ 1 | rfl | decide) (by decide) rfl (fun ls hl => ?_)
  refine lv_goto (tgt := 2) hx hb d_M_part_23 (by decide) ?_
  refine lv_iload_n hx hb d_M_part_2 rfl (lv_at hl 0 rfl) ?_
  refine lv_bipush (v := 8) hx hb d_M_part_3 (by decide) ?_
  refine bn_ge (a1 := 5) (b1 := 8) (tgt := 26) hx hb (by omega) (by omega) d_M_part_5 (by decide) (fun c_6 => ?_) (fun c_6 => ?_)
  · exact absurd c_6 (by decide)
  refine lv_aload_n hx hb d_M_part_8 rfl (lv_at hl 1 rfl) ?_
  refine va_get (D := D) (ci := 1) (v := .ref qm) (C := R_M) (T := T_M) (N := 7) hx hb hts (ui_M _) hown hK hP 0 rfl rfl 6 (by decide) (hts _ (gwc gw_515)) (fun _ h9 => h9) rfl d_M_part_9 ?_
  refine lv_iload_n hx hb d_M_part_12 rfl (lv_at hl 0 rfl) ?_
  refine lv_aload_n hx hb d_M_part_13 rfl (lv_at hl 1 rfl) ?_
  refine va_get (D := D) (ci := 1) (v := .ref qu) (C := R_M) (T := T_M) (N := 7) hx hb hts (ui_M _) hown hK hP 0 rfl rfl 3 (by decide) (hts _ (gwc gw_512)) (fun _ h9 => h9) rfl d_M_part_14 ?_
  refine lv_iload_n hx hb d_M_part_17 rfl (lv_at hl 0 rfl) ?_
  refine ld_l hx hb hK hP 1 2 rfl rfl 5 (by omega) (by omega) d_M_part_18 ?_
  refine tp_l (u5) (rfl) ?_
  refine sf_l (f8 u0 u1 u2 u3 u4 u5 g6 g7) hx hb hK hP hD hS 4 2 rfl rfl 5 f8_5 (by decide) (by decide) d_M_part_19 (fun H locs hP hD hS => ?_)
  have hP : va_P D cl [(hm, .inr (1, [.ref a, .ref b, .ref qa, .ref qu, .ref qb, .ref qh, .ref qm])), (qu, .inl (cJ, 8, .inr (.inl (f8 u0 u1 u2 u3 u4 u5 u6 u7)))), (qb, .inl (cJ, 8, .inr (.inl (f8 v0 v1 v2 v3 v4 v5 v6 v7)))), (qh, .inl (cJ, 8, .inr (.inl (f8 w0 w1 w2 w3 w4 w5 w6 w7)))), (qm, .inl (cJ, 8, .inr (.inl (f8 u0 u1 u2 u3 u4 u5 g6 g7))))] H := hP
  have hD : va_D A [(hm, .inr (1, [.ref a, .ref b, .ref qa, .ref qu, .ref qb, .ref qh, .ref qm])), (qu, .inl (cJ, 8, .inr (.inl (f8 u0 u1 u2 u3 u4 u5 u6 u7)))), (qb, .inl (cJ, 8, .inr (.inl (f8 v0 v1 v2 v3 v4 v5 v6 v7)))), (qh, .inl (cJ, 8, .inr (.inl (f8 w0 w1 w2 w3 w4 w5 w6 w7)))), (qm, .inl (cJ, 8, .inr (.inl (f8 u0 u1 u2 u3 u4 u5 g6 g7))))] := hD
  refine lv_iinc (v := 6) (lv' := [(3, .int 6), (0, .ref hm), (1, .long t)]) hx hb d_M_part_20 hl (k := 0) rfl (by first | exact nI_add _ 1 | rfl | decide) (by decide) rfl (fun ls hl => ?_)
  refine lv_goto (tgt := 2) hx hb d_M_part_23 (by decide) ?_
  refine lv_iload_n hx hb d_M_part_2 rfl (lv_at hl 0 rfl) ?_
  refine lv_bipush (v := 8) hx hb d_M_part_3 (by decide) ?_
  refine bn_ge (a1 := 6) (b1 := 8) (tgt := 26) hx hb (by omega) (by omega) d_M_part_5 (by decide) (fun c_7 => ?_) (fun c_7 => ?_)
  · exact absurd c_7 (by decide)
  refine lv_aload_n hx hb d_M_part_8 rfl (lv_at hl 1 rfl) ?_
  refine va_get (D := D) (ci := 1) (v := .ref qm) (C := R_M) (T := T_M) (N := 7) hx hb hts (ui_M _) hown hK hP 0 rfl rfl 6 (by decide) (hts _ (gwc gw_515)) (fun _ h9 => h9) rfl d_M_part_9 ?_
  refine lv_iload_n hx hb d_M_part_12 rfl (lv_at hl 0 rfl) ?_
  refine lv_aload_n hx hb d_M_part_13 rfl (lv_at hl 1 rfl) ?_
  refine va_get (D := D) (ci := 1) (v := .ref qu) (C := R_M) (T := T_M) (N := 7) hx hb hts (ui_M _) hown hK hP 0 rfl rfl 3 (by decide) (hts _ (gwc gw_512)) (fun _ h9 => h9) rfl d_M_part_14 ?_
  refine lv_iload_n hx hb d_M_part_17 rfl (lv_at hl 0 rfl) ?_
  refine ld_l hx hb hK hP 1 2 rfl rfl 6 (by omega) (by omega) d_M_part_18 ?_
  refine tp_l (u6) (rfl) ?_
  refine sf_l (f8 u0 u1 u2 u3 u4 u5 u6 g7) hx hb hK hP hD hS 4 2 rfl rfl 6 f8_6 (by decide) (by decide) d_M_part_19 (fun H locs hP hD hS => ?_)
  have hP : va_P D cl [(hm, .inr (1, [.ref a, .ref b, .ref qa, .ref qu, .ref qb, .ref qh, .ref qm])), (qu, .inl (cJ, 8, .inr (.inl (f8 u0 u1 u2 u3 u4 u5 u6 u7)))), (qb, .inl (cJ, 8, .inr (.inl (f8 v0 v1 v2 v3 v4 v5 v6 v7)))), (qh, .inl (cJ, 8, .inr (.inl (f8 w0 w1 w2 w3 w4 w5 w6 w7)))), (qm, .inl (cJ, 8, .inr (.inl (f8 u0 u1 u2 u3 u4 u5 u6 g7))))] H := hP
  have hD : va_D A [(hm, .inr (1, [.ref a, .ref b, .ref qa, .ref qu, .ref qb, .ref qh, .ref qm])), (qu, .inl (cJ, 8, .inr (.inl (f8 u0 u1 u2 u3 u4 u5 u6 u7)))), (qb, .inl (cJ, 8, .inr (.inl (f8 v0 v1 v2 v3 v4 v5 v6 v7)))), (qh, .inl (cJ, 8, .inr (.inl (f8 w0 w1 w2 w3 w4 w5 w6 w7)))), (qm, .inl (cJ, 8, .inr (.inl (f8 u0 u1 u2 u3 u4 u5 u6 g7))))] := hD
  refine lv_iinc (v := 7) (lv' := [(3, .int 7), (0, .ref hm), (1, .long t)]) hx hb d_M_part_20 hl (k := 0) rfl (by first | exact nI_add _ 1 | rfl | decide) (by decide) rfl (fun ls hl => ?_)
  refine lv_goto (tgt := 2) hx hb d_M_part_23 (by decide) ?_
  refine lv_iload_n hx hb d_M_part_2 rfl (lv_at hl 0 rfl) ?_
  refine lv_bipush (v := 8) hx hb d_M_part_3 (by decide) ?_
  refine bn_ge (a1 := 7) (b1 := 8) (tgt := 26) hx hb (by omega) (by omega) d_M_part_5 (by decide) (fun c_8 => ?_) (fun c_8 => ?_)
  · exact absurd c_8 (by decide)
  refine lv_aload_n hx hb d_M_part_8 rfl (lv_at hl 1 rfl) ?_
  refine va_get (D := D) (ci := 1) (v := .ref qm) (C := R_M) (T := T_M) (N := 7) hx hb hts (ui_M _) hown hK hP 0 rfl rfl 6 (by decide) (hts _ (gwc gw_515)) (fun _ h9 => h9) rfl d_M_part_9 ?_
  refine lv_iload_n hx hb d_M_part_12 rfl (lv_at hl 0 rfl) ?_
  refine lv_aload_n hx hb d_M_part_13 rfl (lv_at hl 1 rfl) ?_
  refine va_get (D := D) (ci := 1) (v := .ref qu) (C := R_M) (T := T_M) (N := 7) hx hb hts (ui_M _) hown hK hP 0 rfl rfl 3 (by decide) (hts _ (gwc gw_512)) (fun _ h9 => h9) rfl d_M_part_14 ?_
  refine lv_iload_n hx hb d_M_part_17 rfl (lv_at hl 0 rfl) ?_
  refine ld_l hx hb hK hP 1 2 rfl rfl 7 (by omega) (by omega) d_M_part_18 ?_
  refine tp_l (u7) (rfl) ?_
  refine sf_l (f8 u0 u1 u2 u3 u4 u5 u6 u7) hx hb hK hP hD hS 4 2 rfl rfl 7 f8_7 (by decide) (by decide) d_M_part_19 (fun H locs hP hD hS => ?_)
  have hP : va_P D cl [(hm, .inr (1, [.ref a, .ref b, .ref qa, .ref qu, .ref qb, .ref qh, .ref qm])), (qu, .inl (cJ, 8, .inr (.inl (f8 u0 u1 u2 u3 u4 u5 u6 u7)))), (qb, .inl (cJ, 8, .inr (.inl (f8 v0 v1 v2 v3 v4 v5 v6 v7)))), (qh, .inl (cJ, 8, .inr (.inl (f8 w0 w1 w2 w3 w4 w5 w6 w7)))), (qm, .inl (cJ, 8, .inr (.inl (f8 u0 u1 u2 u3 u4 u5 u6 u7))))] H := hP
  have hD : va_D A [(hm, .inr (1, [.ref a, .ref b, .ref qa, .ref qu, .ref qb, .ref qh, .ref qm])), (qu, .inl (cJ, 8, .inr (.inl (f8 u0 u1 u2 u3 u4 u5 u6 u7)))), (qb, .inl (cJ, 8, .inr (.inl (f8 v0 v1 v2 v3 v4 v5 v6 v7)))), (qh, .inl (cJ, 8, .inr (.inl (f8 w0 w1 w2 w3 w4 w5 w6 w7)))), (qm, .inl (cJ, 8, .inr (.inl (f8 u0 u1 u2 u3 u4 u5 u6 u7))))] := hD
  refine lv_iinc (v := 8) (lv' := [(3, .int 8), (0, .ref hm), (1, .long t)]) hx hb d_M_part_20 hl (k := 0) rfl (by first | exact nI_add _ 1 | rfl | decide) (by decide) rfl (fun ls hl => ?_)
  refine lv_goto (tgt := 2) hx hb d_M_part_23 (by decide) ?_
  refine lv_iload_n hx hb d_M_part_2 rfl (lv_at hl 0 rfl) ?_
  refine lv_bipush (v := 8) hx hb d_M_part_3 (by decide) ?_
  refine bn_ge (a1 := 8) (b1 := 8) (tgt := 26) hx hb (by omega) (by omega) d_M_part_5 (by decide) (fun c_9 => ?_) (fun c_9 => ?_)
  rotate_left
  · exact absurd c_9 (by decide)
  refine lv_iconst (v := 0) hx hb d_M_part_26 (by decide) ?_
  refine lv_istore_n (lv' := [(3, .int 0), (0, .ref hm), (1, .long t)]) hx hb d_M_part_27 rfl hl (by decide) rfl (fun ls hl => ?_)
  refine lv_iload_n hx hb d_M_part_28 rfl (lv_at hl 0 rfl) ?_
  refine lv_iconst (v := 4) hx hb d_M_part_29 (by decide) ?_
  refine bn_ge (a1 := 0) (b1 := 4) (tgt := 162) hx hb (by omega) (by omega) d_M_part_30 (by decide) (fun c_10 => ?_) (fun c_10 => ?_)
  · exact absurd c_10 (by decide)
  refine lv_aload_n hx hb d_M_part_33 rfl (lv_at hl 1 rfl) ?_
  refine va_get (D := D) (ci := 1) (v := .ref qb) (C := R_M) (T := T_M) (N := 7) hx hb hts (ui_M _) hown hK hP 0 rfl rfl 4 (by decide) (hts _ (gwc gw_513)) (fun _ h9 => h9) rfl d_M_part_34 ?_
  refine lv_iconst (v := 2) hx hb d_M_part_37 (by decide) ?_
  refine lv_iload_n hx hb d_M_part_38 rfl (lv_at hl 0 rfl) ?_
  refine lv_imul hx hb d_M_part_39 ?_
  refine tp_i (0) (by decide) ?_
  refine lv_aload_n hx hb d_M_part_40 rfl (lv_at hl 1 rfl) ?_
  refine va_get (D := D) (ci := 1) (v := .ref qm) (C := R_M) (T := T_M) (N := 7) hx hb hts (ui_M _) hown hK hP 0 rfl rfl 6 (by decide) (hts _ (gwc gw_515)) (fun _ h9 => h9) rfl d_M_part_41 ?_
  refine lv_iconst (v := 0) hx hb d_M_part_44 (by decide) ?_
  refine ld_l hx hb hK hP 4 2 rfl rfl 0 (by omega) (by omega) d_M_part_45 ?_
  refine tp_l (u0) (rfl) ?_
  refine sf_l (f8 u0 v1 v2 v3 v4 v5 v6 v7) hx hb hK hP hD hS 2 2 rfl rfl 0 f8_0 (by decide) (by decide) d_M_part_46 (fun H locs hP hD hS => ?_)
  have hP : va_P D cl [(hm, .inr (1, [.ref a, .ref b, .ref qa, .ref qu, .ref qb, .ref qh, .ref qm])), (qu, .inl (cJ, 8, .inr (.inl (f8 u0 u1 u2 u3 u4 u5 u6 u7)))), (qb, .inl (cJ, 8, .inr (.inl (f8 u0 v1 v2 v3 v4 v5 v6 v7)))), (qh, .inl (cJ, 8, .inr (.inl (f8 w0 w1 w2 w3 w4 w5 w6 w7)))), (qm, .inl (cJ, 8, .inr (.inl (f8 u0 u1 u2 u3 u4 u5 u6 u7))))] H := hP
  have hD : va_D A [(hm, .inr (1, [.ref a, .ref b, .ref qa, .ref qu, .ref qb, .ref qh, .ref qm])), (qu, .inl (cJ, 8, .inr (.inl (f8 u0 u1 u2 u3 u4 u5 u6 u7)))), (qb, .inl (cJ, 8, .inr (.inl (f8 u0 v1 v2 v3 v4 v5 v6 v7)))), (qh, .inl (cJ, 8, .inr (.inl (f8 w0 w1 w2 w3 w4 w5 w6 w7)))), (qm, .inl (cJ, 8, .inr (.inl (f8 u0 u1 u2 u3 u4 u5 u6 u7))))] := hD
  refine lv_aload_n hx hb d_M_part_47 rfl (lv_at hl 1 rfl) ?_
  refine va_get (D := D) (ci := 1) (v := .ref qb) (C := R_M) (T := T_M) (N := 7) hx hb hts (ui_M _) hown hK hP 0 rfl rfl 4 (by decide) (hts _ (gwc gw_513)) (fun _ h9 => h9) rfl d_M_part_48 ?_
  refine lv_iconst (v := 2) hx hb d_M_part_51 (by decide) ?_
  refine lv_iload_n hx hb d_M_part_52 rfl (lv_at hl 0 rfl) ?_
  refine lv_imul hx hb d_M_part_53 ?_
  refine tp_i (0) (by decide) ?_
  refine lv_iconst (v := 1) hx hb d_M_part_54 (by decide) ?_
  refine lv_iadd hx hb d_M_part_55 ?_
  refine tp_i (1) (by decide) ?_
  refine lv_aload_n hx hb d_M_part_56 rfl (lv_at hl 1 rfl) ?_
  refine va_get (D := D) (ci := 1) (v := .ref qm) (C := R_M) (T := T_M) (N := 7) hx hb hts (ui_M _) hown hK hP 0 rfl rfl 6 (by decide) (hts _ (gwc gw_515)) (fun _ h9 => h9) rfl d_M_part_57 ?_
  refine lv_iconst (v := 1) hx hb d_M_part_60 (by decide) ?_
  refine ld_l hx hb hK hP 4 2 rfl rfl 1 (by omega) (by omega) d_M_part_61 ?_
  refine tp_l (u1) (rfl) ?_
  refine sf_l (f8 u0 u1 v2 v3 v4 v5 v6 v7) hx hb hK hP hD hS 2 2 rfl rfl 1 f8_1 (by decide) (by decide) d_M_part_62 (fun H locs hP hD hS => ?_)
  have hP : va_P D cl [(hm, .inr (1, [.ref a, .ref b, .ref qa, .ref qu, .ref qb, .ref qh, .ref qm])), (qu, .inl (cJ, 8, .inr (.inl (f8 u0 u1 u2 u3 u4 u5 u6 u7)))), (qb, .inl (cJ, 8, .inr (.inl (f8 u0 u1 v2 v3 v4 v5 v6 v7)))), (qh, .inl (cJ, 8, .inr (.inl (f8 w0 w1 w2 w3 w4 w5 w6 w7)))), (qm, .inl (cJ, 8, .inr (.inl (f8 u0 u1 u2 u3 u4 u5 u6 u7))))] H := hP
  have hD : va_D A [(hm, .inr (1, [.ref a, .ref b, .ref qa, .ref qu, .ref qb, .ref qh, .ref qm])), (qu, .inl (cJ, 8, .inr (.inl (f8 u0 u1 u2 u3 u4 u5 u6 u7)))), (qb, .inl (cJ, 8, .inr (.inl (f8 u0 u1 v2 v3 v4 v5 v6 v7)))), (qh, .inl (cJ, 8, .inr (.inl (f8 w0 w1 w2 w3 w4 w5 w6 w7)))), (qm, .inl (cJ, 8, .inr (.inl (f8 u0 u1 u2 u3 u4 u5 u6 u7))))] := hD
  refine lv_aload_n hx hb d_M_part_63 rfl (lv_at hl 1 rfl) ?_
  refine va_get (D := D) (ci := 1) (v := .ref qh) (C := R_M) (T := T_M) (N := 7) hx hb hts (ui_M _) hown hK hP 0 rfl rfl 5 (by decide) (hts _ (gwc gw_514)) (fun _ h9 => h9) rfl d_M_part_64 ?_
  refine lv_bipush (v := 6) hx hb d_M_part_67 (by decide) ?_
  refine lv_iconst (v := 2) hx hb d_M_part_69 (by decide) ?_
  refine lv_iload_n hx hb d_M_part_70 rfl (lv_at hl 0 rfl) ?_
  refine lv_imul hx hb d_M_part_71 ?_
  refine tp_i (0) (by decide) ?_
  refine lv_isub hx hb d_M_part_72 ?_
  refine tp_i (6) (by decide) ?_
  refine lv_aload_n hx hb d_M_part_73 rfl (lv_at hl 1 rfl) ?_
  refine va_get (D := D) (ci := 1) (v := .ref qm) (C := R_M) (T := T_M) (N := 7) hx hb hts (ui_M _) hown hK hP 0 rfl rfl 6 (by decide) (hts _ (gwc gw_515)) (fun _ h9 => h9) rfl d_M_part_74 ?_
  refine lv_bipush (v := 6) hx hb d_M_part_77 (by decide) ?_
  refine lv_iconst (v := 2) hx hb d_M_part_79 (by decide) ?_
  refine lv_iload_n hx hb d_M_part_80 rfl (lv_at hl 0 rfl) ?_
  refine lv_imul hx hb d_M_part_81 ?_
  refine tp_i (0) (by decide) ?_
  refine lv_isub hx hb d_M_part_82 ?_
  refine tp_i (6) (by decide) ?_
  refine ld_l hx hb hK hP 4 2 rfl rfl 6 (by omega) (by omega) d_M_part_83 ?_
  refine tp_l (u6) (rfl) ?_
  refine sf_l (f8 w0 w1 w2 w3 w4 w5 u6 w7) hx hb hK hP hD hS 3 2 rfl rfl 6 f8_6 (by decide) (by decide) d_M_part_84 (fun H locs hP hD hS => ?_)
  have hP : va_P D cl [(hm, .inr (1, [.ref a, .ref b, .ref qa, .ref qu, .ref qb, .ref qh, .ref qm])), (qu, .inl (cJ, 8, .inr (.inl (f8 u0 u1 u2 u3 u4 u5 u6 u7)))), (qb, .inl (cJ, 8, .inr (.inl (f8 u0 u1 v2 v3 v4 v5 v6 v7)))), (qh, .inl (cJ, 8, .inr (.inl (f8 w0 w1 w2 w3 w4 w5 u6 w7)))), (qm, .inl (cJ, 8, .inr (.inl (f8 u0 u1 u2 u3 u4 u5 u6 u7))))] H := hP
  have hD : va_D A [(hm, .inr (1, [.ref a, .ref b, .ref qa, .ref qu, .ref qb, .ref qh, .ref qm])), (qu, .inl (cJ, 8, .inr (.inl (f8 u0 u1 u2 u3 u4 u5 u6 u7)))), (qb, .inl (cJ, 8, .inr (.inl (f8 u0 u1 v2 v3 v4 v5 v6 v7)))), (qh, .inl (cJ, 8, .inr (.inl (f8 w0 w1 w2 w3 w4 w5 u6 w7)))), (qm, .inl (cJ, 8, .inr (.inl (f8 u0 u1 u2 u3 u4 u5 u6 u7))))] := hD
  refine lv_aload_n hx hb d_M_part_85 rfl (lv_at hl 1 rfl) ?_
  refine va_get (D := D) (ci := 1) (v := .ref qh) (C := R_M) (T := T_M) (N := 7) hx hb hts (ui_M _) hown hK hP 0 rfl rfl 5 (by decide) (hts _ (gwc gw_514)) (fun _ h9 => h9) rfl d_M_part_86 ?_
  refine lv_bipush (v := 7) hx hb d_M_part_89 (by decide) ?_
  refine lv_iconst (v := 2) hx hb d_M_part_91 (by decide) ?_
  refine lv_iload_n hx hb d_M_part_92 rfl (lv_at hl 0 rfl) ?_
  refine lv_imul hx hb d_M_part_93 ?_
  refine tp_i (0) (by decide) ?_
  refine lv_isub hx hb d_M_part_94 ?_
  refine tp_i (7) (by decide) ?_
  refine lv_aload_n hx hb d_M_part_95 rfl (lv_at hl 1 rfl) ?_
  refine va_get (D := D) (ci := 1) (v := .ref qm) (C := R_M) (T := T_M) (N := 7) hx hb hts (ui_M _) hown hK hP 0 rfl rfl 6 (by decide) (hts _ (gwc gw_515)) (fun _ h9 => h9) rfl d_M_part_96 ?_
  refine lv_bipush (v := 7) hx hb d_M_part_99 (by decide) ?_
  refine lv_iconst (v := 2) hx hb d_M_part_101 (by decide) ?_
  refine lv_iload_n hx hb d_M_part_102 rfl (lv_at hl 0 rfl) ?_
  refine lv_imul hx hb d_M_part_103 ?_
  refine tp_i (0) (by decide) ?_
  refine lv_isub hx hb d_M_part_104 ?_
  refine tp_i (7) (by decide) ?_
  refine ld_l hx hb hK hP 4 2 rfl rfl 7 (by omega) (by omega) d_M_part_105 ?_
  refine tp_l (u7) (rfl) ?_
  refine sf_l (f8 w0 w1 w2 w3 w4 w5 u6 u7) hx hb hK hP hD hS 3 2 rfl rfl 7 f8_7 (by decide) (by decide) d_M_part_106 (fun H locs hP hD hS => ?_)
  have hP : va_P D cl [(hm, .inr (1, [.ref a, .ref b, .ref qa, .ref qu, .ref qb, .ref qh, .ref qm])), (qu, .inl (cJ, 8, .inr (.inl (f8 u0 u1 u2 u3 u4 u5 u6 u7)))), (qb, .inl (cJ, 8, .inr (.inl (f8 u0 u1 v2 v3 v4 v5 v6 v7)))), (qh, .inl (cJ, 8, .inr (.inl (f8 w0 w1 w2 w3 w4 w5 u6 u7)))), (qm, .inl (cJ, 8, .inr (.inl (f8 u0 u1 u2 u3 u4 u5 u6 u7))))] H := hP
  have hD : va_D A [(hm, .inr (1, [.ref a, .ref b, .ref qa, .ref qu, .ref qb, .ref qh, .ref qm])), (qu, .inl (cJ, 8, .inr (.inl (f8 u0 u1 u2 u3 u4 u5 u6 u7)))), (qb, .inl (cJ, 8, .inr (.inl (f8 u0 u1 v2 v3 v4 v5 v6 v7)))), (qh, .inl (cJ, 8, .inr (.inl (f8 w0 w1 w2 w3 w4 w5 u6 u7)))), (qm, .inl (cJ, 8, .inr (.inl (f8 u0 u1 u2 u3 u4 u5 u6 u7))))] := hD
  refine lv_iconst (v := 0) hx hb d_M_part_107 (by decide) ?_
  refine lv_istore (lv' := [(4, .int 0), (3, .int 0), (0, .ref hm), (1, .long t)]) hx hb d_M_part_108 hl (by decide) rfl (fun ls hl => ?_)
  refine lv_iload hx hb d_M_part_110 (lv_at hl 0 rfl) ?_
  refine lv_iconst (v := 2) hx hb d_M_part_112 (by decide) ?_
  refine lv_iadd hx hb d_M_part_113 ?_
  refine tp_i (2) (by decide) ?_
  refine lv_bipush (v := 8) hx hb d_M_part_114 (by decide) ?_
  refine lv_iconst (v := 2) hx hb d_M_part_116 (by decide) ?_
  refine lv_iload_n hx hb d_M_part_117 rfl (lv_at hl 1 rfl) ?_
  refine lv_imul hx hb d_M_part_118 ?_
  refine tp_i (0) (by decide) ?_
  refine lv_isub hx hb d_M_part_119 ?_
  refine tp_i (8) (by decide) ?_
  refine bn_ge (a1 := 2) (b1 := 8) (tgt := 156) hx hb (by omega) (by omega) d_M_part_120 (by decide) (fun c_11 => ?_) (fun c_11 => ?_)
  · exact absurd c_11 (by decide)
  refine lv_aload_n hx hb d_M_part_123 rfl (lv_at hl 2 rfl) ?_
  refine va_get (D := D) (ci := 1) (v := .ref qm) (C := R_M) (T := T_M) (N := 7) hx hb hts (ui_M _) hown hK hP 0 rfl rfl 6 (by decide) (hts _ (gwc gw_515)) (fun _ h9 => h9) rfl d_M_part_124 ?_
  refine lv_iload hx hb d_M_part_127 (lv_at hl 0 rfl) ?_
  refine lv_aload_n hx hb d_M_part_129 rfl (lv_at hl 2 rfl) ?_
  refine va_get (D := D) (ci := 1) (v := .ref qm) (C := R_M) (T := T_M) (N := 7) hx hb hts (ui_M _) hown hK hP 0 rfl rfl 6 (by decide) (hts _ (gwc gw_515)) (fun _ h9 => h9) rfl d_M_part_130 ?_
  refine lv_iload hx hb d_M_part_133 (lv_at hl 0 rfl) ?_
  refine ld_l hx hb hK hP 4 2 rfl rfl 0 (by omega) (by omega) d_M_part_135 ?_
  refine tp_l (u0) (rfl) ?_
  refine lv_aload_n hx hb d_M_part_136 rfl (lv_at hl 2 rfl) ?_
  refine va_get (D := D) (ci := 1) (v := .ref qm) (C := R_M) (T := T_M) (N := 7) hx hb hts (ui_M _) hown hK hP 0 rfl rfl 6 (by decide) (hts _ (gwc gw_515)) (fun _ h9 => h9) rfl d_M_part_137 ?_
  refine lv_iload hx hb d_M_part_140 (lv_at hl 0 rfl) ?_
  refine lv_iconst (v := 2) hx hb d_M_part_142 (by decide) ?_
  refine lv_iadd hx hb d_M_part_143 ?_
  refine tp_i (2) (by decide) ?_
  refine ld_l hx hb hK hP 4 2 rfl rfl 2 (by omega) (by omega) d_M_part_144 ?_
  refine tp_l (u2) (rfl) ?_
  refine lv_lload_n hx hb d_M_part_145 rfl (lv_at hl 3 rfl) ?_
  refine ct_callS (av := [.long u0, .long u2, .long t]) (rest := [.int 0, .ref qm]) (wr := [(hm, .inr (1, [.ref a, .ref b, .ref qa, .ref qu, .ref qb, .ref qh, .ref qm])), (qu, .inl (cJ, 8, .inr (.inl (f8 u0 u1 u2 u3 u4 u5 u6 u7)))), (qb, .inl (cJ, 8, .inr (.inl (f8 u0 u1 v2 v3 v4 v5 v6 v7)))), (qh, .inl (cJ, 8, .inr (.inl (f8 w0 w1 w2 w3 w4 w5 u6 u7)))), (qm, .inl (cJ, 8, .inr (.inl (f8 u0 u1 u2 u3 u4 u5 u6 u7))))]) (n := 3) (c_M_mix l D cI cB cJ qQ  u0 u2 t ) hx hb hml hown hts (amb_ok qQ) hK hP hD hS hA hM (gi_S gw_650 gw_651 gw_33 gw_652) rfl (by decide +kernel) ⟨by omega, by omega⟩ [] [0, 1, 2, 3, 4] rfl rfl rfl rfl (by decide) rfl hl.1 rfl (Nat.le_of_ble_eq_true rfl) d_M_part_146 ⟨by omega, by omega⟩ (fun u_12 H locs hok hP hD hS => ?_)
  have hP : va_P D cl [(hm, .inr (1, [.ref a, .ref b, .ref qa, .ref qu, .ref qb, .ref qh, .ref qm])), (qu, .inl (cJ, 8, .inr (.inl (f8 u0 u1 u2 u3 u4 u5 u6 u7)))), (qb, .inl (cJ, 8, .inr (.inl (f8 u0 u1 v2 v3 v4 v5 v6 v7)))), (qh, .inl (cJ, 8, .inr (.inl (f8 w0 w1 w2 w3 w4 w5 u6 u7)))), (qm, .inl (cJ, 8, .inr (.inl (f8 u0 u1 u2 u3 u4 u5 u6 u7))))] H := hP
  have hD : va_D A [(hm, .inr (1, [.ref a, .ref b, .ref qa, .ref qu, .ref qb, .ref qh, .ref qm])), (qu, .inl (cJ, 8, .inr (.inl (f8 u0 u1 u2 u3 u4 u5 u6 u7)))), (qb, .inl (cJ, 8, .inr (.inl (f8 u0 u1 v2 v3 v4 v5 v6 v7)))), (qh, .inl (cJ, 8, .inr (.inl (f8 w0 w1 w2 w3 w4 w5 u6 u7)))), (qm, .inl (cJ, 8, .inr (.inl (f8 u0 u1 u2 u3 u4 u5 u6 u7))))] := hD
  refine W.eq (g2 := F0 m 149 ls [.long (mixL u0 u2 t), .int 0, .ref qm]) rfl ?_
  refine sf_l (f8 (mixL u0 u2 t) u1 u2 u3 u4 u5 u6 u7) hx hb hK hP hD hS 4 2 rfl rfl 0 f8_0 (by decide) (by decide) d_M_part_149 (fun H locs hP hD hS => ?_)
  have hP : va_P D cl [(hm, .inr (1, [.ref a, .ref b, .ref qa, .ref qu, .ref qb, .ref qh, .ref qm])), (qu, .inl (cJ, 8, .inr (.inl (f8 u0 u1 u2 u3 u4 u5 u6 u7)))), (qb, .inl (cJ, 8, .inr (.inl (f8 u0 u1 v2 v3 v4 v5 v6 v7)))), (qh, .inl (cJ, 8, .inr (.inl (f8 w0 w1 w2 w3 w4 w5 u6 u7)))), (qm, .inl (cJ, 8, .inr (.inl (f8 (mixL u0 u2 t) u1 u2 u3 u4 u5 u6 u7))))] H := hP
  have hD : va_D A [(hm, .inr (1, [.ref a, .ref b, .ref qa, .ref qu, .ref qb, .ref qh, .ref qm])), (qu, .inl (cJ, 8, .inr (.inl (f8 u0 u1 u2 u3 u4 u5 u6 u7)))), (qb, .inl (cJ, 8, .inr (.inl (f8 u0 u1 v2 v3 v4 v5 v6 v7)))), (qh, .inl (cJ, 8, .inr (.inl (f8 w0 w1 w2 w3 w4 w5 u6 u7)))), (qm, .inl (cJ, 8, .inr (.inl (f8 (mixL u0 u2 t) u1 u2 u3 u4 u5 u6 u7))))] := hD
  refine lv_iinc (v := 1) (lv' := [(4, .int 1), (3, .int 0), (0, .ref hm), (1, .long t)]) hx hb d_M_part_150 hl (k := 0) rfl (by first | exact nI_add _ 1 | rfl | decide) (by decide) rfl (fun ls hl => ?_)
  refine lv_goto (tgt := 110) hx hb d_M_part_153 (by decide) ?_
  refine lv_iload hx hb d_M_part_110 (lv_at hl 0 rfl) ?_
  refine lv_iconst (v := 2) hx hb d_M_part_112 (by decide) ?_
  refine lv_iadd hx hb d_M_part_113 ?_
  refine tp_i (3) (by decide) ?_
  refine lv_bipush (v := 8) hx hb d_M_part_114 (by decide) ?_
  refine lv_iconst (v := 2) hx hb d_M_part_116 (by decide) ?_
  refine lv_iload_n hx hb d_M_part_117 rfl (lv_at hl 1 rfl) ?_
  refine lv_imul hx hb d_M_part_118 ?_
  refine tp_i (0) (by decide) ?_
  refine lv_isub hx hb d_M_part_119 ?_
  refine tp_i (8) (by decide) ?_
  refine bn_ge (a1 := 3) (b1 := 8) (tgt := 156) hx hb (by omega) (by omega) d_M_part_120 (by decide) (fun c_13 => ?_) (fun c_13 => ?_)
  · exact absurd c_13 (by decide)
  refine lv_aload_n hx hb d_M_part_123 rfl (lv_at hl 2 rfl) ?_
  refine va_get (D := D) (ci := 1) (v := .ref qm) (C := R_M) (T := T_M) (N := 7) hx hb hts (ui_M _) hown hK hP 0 rfl rfl 6 (by decide) (hts _ (gwc gw_515)) (fun _ h9 => h9) rfl d_M_part_124 ?_
  refine lv_iload hx hb d_M_part_127 (lv_at hl 0 rfl) ?_
  refine lv_aload_n hx hb d_M_part_129 rfl (lv_at hl 2 rfl) ?_
  refine va_get (D := D) (ci := 1) (v := .ref qm) (C := R_M) (T := T_M) (N := 7) hx hb hts (ui_M _) hown hK hP 0 rfl rfl 6 (by decide) (hts _ (gwc gw_515)) (fun _ h9 => h9) rfl d_M_part_130 ?_
  refine lv_iload hx hb d_M_part_133 (lv_at hl 0 rfl) ?_
  refine ld_l hx hb hK hP 4 2 rfl rfl 1 (by omega) (by omega) d_M_part_135 ?_
  refine tp_l (u1) (rfl) ?_
  refine lv_aload_n hx hb d_M_part_136 rfl (lv_at hl 2 rfl) ?_
  refine va_get (D := D) (ci := 1) (v := .ref qm) (C := R_M) (T := T_M) (N := 7) hx hb hts (ui_M _) hown hK hP 0 rfl rfl 6 (by decide) (hts _ (gwc gw_515)) (fun _ h9 => h9) rfl d_M_part_137 ?_
  refine lv_iload hx hb d_M_part_140 (lv_at hl 0 rfl) ?_
  refine lv_iconst (v := 2) hx hb d_M_part_142 (by decide) ?_
  refine lv_iadd hx hb d_M_part_143 ?_
  refine tp_i (3) (by decide) ?_
  refine ld_l hx hb hK hP 4 2 rfl rfl 3 (by omega) (by omega) d_M_part_144 ?_
  refine tp_l (u3) (rfl) ?_
  refine lv_lload_n hx hb d_M_part_145 rfl (lv_at hl 3 rfl) ?_
  refine ct_callS (av := [.long u1, .long u3, .long t]) (rest := [.int 1, .ref qm]) (wr := [(hm, .inr (1, [.ref a, .ref b, .ref qa, .ref qu, .ref qb, .ref qh, .ref qm])), (qu, .inl (cJ, 8, .inr (.inl (f8 u0 u1 u2 u3 u4 u5 u6 u7)))), (qb, .inl (cJ, 8, .inr (.inl (f8 u0 u1 v2 v3 v4 v5 v6 v7)))), (qh, .inl (cJ, 8, .inr (.inl (f8 w0 w1 w2 w3 w4 w5 u6 u7)))), (qm, .inl (cJ, 8, .inr (.inl (f8 (mixL u0 u2 t) u1 u2 u3 u4 u5 u6 u7))))]) (n := 3) (c_M_mix l D cI cB cJ qQ  u1 u3 t ) hx hb hml hown hts (amb_ok qQ) hK hP hD hS hA hM (gi_S gw_650 gw_651 gw_33 gw_652) rfl (by decide +kernel) ⟨by omega, by omega⟩ [] [0, 1, 2, 3, 4] rfl rfl rfl rfl (by decide) rfl hl.1 rfl (Nat.le_of_ble_eq_true rfl) d_M_part_146 ⟨by omega, by omega⟩ (fun u_14 H locs hok hP hD hS => ?_)
  have hP : va_P D cl [(hm, .inr (1, [.ref a, .ref b, .ref qa, .ref qu, .ref qb, .ref qh, .ref qm])), (qu, .inl (cJ, 8, .inr (.inl (f8 u0 u1 u2 u3 u4 u5 u6 u7)))), (qb, .inl (cJ, 8, .inr (.inl (f8 u0 u1 v2 v3 v4 v5 v6 v7)))), (qh, .inl (cJ, 8, .inr (.inl (f8 w0 w1 w2 w3 w4 w5 u6 u7)))), (qm, .inl (cJ, 8, .inr (.inl (f8 (mixL u0 u2 t) u1 u2 u3 u4 u5 u6 u7))))] H := hP
  have hD : va_D A [(hm, .inr (1, [.ref a, .ref b, .ref qa, .ref qu, .ref qb, .ref qh, .ref qm])), (qu, .inl (cJ, 8, .inr (.inl (f8 u0 u1 u2 u3 u4 u5 u6 u7)))), (qb, .inl (cJ, 8, .inr (.inl (f8 u0 u1 v2 v3 v4 v5 v6 v7)))), (qh, .inl (cJ, 8, .inr (.inl (f8 w0 w1 w2 w3 w4 w5 u6 u7)))), (qm, .inl (cJ, 8, .inr (.inl (f8 (mixL u0 u2 t) u1 u2 u3 u4 u5 u6 u7))))] := hD
  refine W.eq (g2 := F0 m 149 ls [.long (mixL u1 u3 t), .int 1, .ref qm]) rfl ?_
  refine sf_l (f8 (mixL u0 u2 t) (mixL u1 u3 t) u2 u3 u4 u5 u6 u7) hx hb hK hP hD hS 4 2 rfl rfl 1 f8_1 (by decide) (by decide) d_M_part_149 (fun H locs hP hD hS => ?_)
  have hP : va_P D cl [(hm, .inr (1, [.ref a, .ref b, .ref qa, .ref qu, .ref qb, .ref qh, .ref qm])), (qu, .inl (cJ, 8, .inr (.inl (f8 u0 u1 u2 u3 u4 u5 u6 u7)))), (qb, .inl (cJ, 8, .inr (.inl (f8 u0 u1 v2 v3 v4 v5 v6 v7)))), (qh, .inl (cJ, 8, .inr (.inl (f8 w0 w1 w2 w3 w4 w5 u6 u7)))), (qm, .inl (cJ, 8, .inr (.inl (f8 (mixL u0 u2 t) (mixL u1 u3 t) u2 u3 u4 u5 u6 u7))))] H := hP
  have hD : va_D A [(hm, .inr (1, [.ref a, .ref b, .ref qa, .ref qu, .ref qb, .ref qh, .ref qm])), (qu, .inl (cJ, 8, .inr (.inl (f8 u0 u1 u2 u3 u4 u5 u6 u7)))), (qb, .inl (cJ, 8, .inr (.inl (f8 u0 u1 v2 v3 v4 v5 v6 v7)))), (qh, .inl (cJ, 8, .inr (.inl (f8 w0 w1 w2 w3 w4 w5 u6 u7)))), (qm, .inl (cJ, 8, .inr (.inl (f8 (mixL u0 u2 t) (mixL u1 u3 t) u2 u3 u4 u5 u6 u7))))] := hD
  refine lv_iinc (v := 2) (lv' := [(4, .int 2), (3, .int 0), (0, .ref hm), (1, .long t)]) hx hb d_M_part_150 hl (k := 0) rfl (by first | exact nI_add _ 1 | rfl | decide) (by decide) rfl (fun ls hl => ?_)
  refine lv_goto (tgt := 110) hx hb d_M_part_153 (by decide) ?_
  refine lv_iload hx hb d_M_part_110 (lv_at hl 0 rfl) ?_
  refine lv_iconst (v := 2) hx hb d_M_part_112 (by decide) ?_
  refine lv_iadd hx hb d_M_part_113 ?_
  refine tp_i (4) (by decide) ?_
  refine lv_bipush (v := 8) hx hb d_M_part_114 (by decide) ?_
  refine lv_iconst (v := 2) hx hb d_M_part_116 (by decide) ?_
  refine lv_iload_n hx hb d_M_part_117 rfl (lv_at hl 1 rfl) ?_
  refine lv_imul hx hb d_M_part_118 ?_
  refine tp_i (0) (by decide) ?_
  refine lv_isub hx hb d_M_part_119 ?_
  refine tp_i (8) (by decide) ?_
  refine bn_ge (a1 := 4) (b1 := 8) (tgt := 156) hx hb (by omega) (by omega) d_M_part_120 (by decide) (fun c_15 => ?_) (fun c_15 => ?_)
  · exact absurd c_15 (by decide)
  refine lv_aload_n hx hb d_M_part_123 rfl (lv_at hl 2 rfl) ?_
  refine va_get (D := D) (ci := 1) (v := .ref qm) (C := R_M) (T := T_M) (N := 7) hx hb hts (ui_M _) hown hK hP 0 rfl rfl 6 (by decide) (hts _ (gwc gw_515)) (fun _ h9 => h9) rfl d_M_part_124 ?_
  refine lv_iload hx hb d_M_part_127 (lv_at hl 0 rfl) ?_
  refine lv_aload_n hx hb d_M_part_129 rfl (lv_at hl 2 rfl) ?_
  refine va_get (D := D) (ci := 1) (v := .ref qm) (C := R_M) (T := T_M) (N := 7) hx hb hts (ui_M _) hown hK hP 0 rfl rfl 6 (by decide) (hts _ (gwc gw_515)) (fun _ h9 => h9) rfl d_M_part_130 ?_
  refine lv_iload hx hb d_M_part_133 (lv_at hl 0 rfl) ?_
  refine ld_l hx hb hK hP 4 2 rfl rfl 2 (by omega) (by omega) d_M_part_135 ?_
  refine tp_l (u2) (rfl) ?_
  refine lv_aload_n hx hb d_M_part_136 rfl (lv_at hl 2 rfl) ?_
  refine va_get (D := D) (ci := 1) (v := .ref qm) (C := R_M) (T := T_M) (N := 7) hx hb hts (ui_M _) hown hK hP 0 rfl rfl 6 (by decide) (hts _ (gwc gw_515)) (fun _ h9 => h9) rfl d_M_part_137 ?_
  refine lv_iload hx hb d_M_part_140 (lv_at hl 0 rfl) ?_
  refine lv_iconst (v := 2) hx hb d_M_part_142 (by decide) ?_
  refine lv_iadd hx hb d_M_part_143 ?_
  refine tp_i (4) (by decide) ?_
  refine ld_l hx hb hK hP 4 2 rfl rfl 4 (by omega) (by omega) d_M_part_144 ?_
  refine tp_l (u4) (rfl) ?_
  refine lv_lload_n hx hb d_M_part_145 rfl (lv_at hl 3 rfl) ?_
  refine ct_callS (av := [.long u2, .long u4, .long t]) (rest := [.int 2, .ref qm]) (wr := [(hm, .inr (1, [.ref a, .ref b, .ref qa, .ref qu, .ref qb, .ref qh, .ref qm])), (qu, .inl (cJ, 8, .inr (.inl (f8 u0 u1 u2 u3 u4 u5 u6 u7)))), (qb, .inl (cJ, 8, .inr (.inl (f8 u0 u1 v2 v3 v4 v5 v6 v7)))), (qh, .inl (cJ, 8, .inr (.inl (f8 w0 w1 w2 w3 w4 w5 u6 u7)))), (qm, .inl (cJ, 8, .inr (.inl (f8 (mixL u0 u2 t) (mixL u1 u3 t) u2 u3 u4 u5 u6 u7))))]) (n := 3) (c_M_mix l D cI cB cJ qQ  u2 u4 t ) hx hb hml hown hts (amb_ok qQ) hK hP hD hS hA hM (gi_S gw_650 gw_651 gw_33 gw_652) rfl (by decide +kernel) ⟨by omega, by omega⟩ [] [0, 1, 2, 3, 4] rfl rfl rfl rfl (by decide) rfl hl.1 rfl (Nat.le_of_ble_eq_true rfl) d_M_part_146 ⟨by omega, by omega⟩ (fun u_16 H locs hok hP hD hS => ?_)
  have hP : va_P D cl [(hm, .inr (1, [.ref a, .ref b, .ref qa, .ref qu, .ref qb, .ref qh, .ref qm])), (qu, .inl (cJ, 8, .inr (.inl (f8 u0 u1 u2 u3 u4 u5 u6 u7)))), (qb, .inl (cJ, 8, .inr (.inl (f8 u0 u1 v2 v3 v4 v5 v6 v7)))), (qh, .inl (cJ, 8, .inr (.inl (f8 w0 w1 w2 w3 w4 w5 u6 u7)))), (qm, .inl (cJ, 8, .inr (.inl (f8 (mixL u0 u2 t) (mixL u1 u3 t) u2 u3 u4 u5 u6 u7))))] H := hP
  have hD : va_D A [(hm, .inr (1, [.ref a, .ref b, .ref qa, .ref qu, .ref qb, .ref qh, .ref qm])), (qu, .inl (cJ, 8, .inr (.inl (f8 u0 u1 u2 u3 u4 u5 u6 u7)))), (qb, .inl (cJ, 8, .inr (.inl (f8 u0 u1 v2 v3 v4 v5 v6 v7)))), (qh, .inl (cJ, 8, .inr (.inl (f8 w0 w1 w2 w3 w4 w5 u6 u7)))), (qm, .inl (cJ, 8, .inr (.inl (f8 (mixL u0 u2 t) (mixL u1 u3 t) u2 u3 u4 u5 u6 u7))))] := hD
  refine W.eq (g2 := F0 m 149 ls [.long (mixL u2 u4 t), .int 2, .ref qm]) rfl ?_
  refine sf_l (f8 (mixL u0 u2 t) (mixL u1 u3 t) (mixL u2 u4 t) u3 u4 u5 u6 u7) hx hb hK hP hD hS 4 2 rfl rfl 2 f8_2 (by decide) (by decide) d_M_part_149 (fun H locs hP hD hS => ?_)
  have hP : va_P D cl [(hm, .inr (1, [.ref a, .ref b, .ref qa, .ref qu, .ref qb, .ref qh, .ref qm])), (qu, .inl (cJ, 8, .inr (.inl (f8 u0 u1 u2 u3 u4 u5 u6 u7)))), (qb, .inl (cJ, 8, .inr (.inl (f8 u0 u1 v2 v3 v4 v5 v6 v7)))), (qh, .inl (cJ, 8, .inr (.inl (f8 w0 w1 w2 w3 w4 w5 u6 u7)))), (qm, .inl (cJ, 8, .inr (.inl (f8 (mixL u0 u2 t) (mixL u1 u3 t) (mixL u2 u4 t) u3 u4 u5 u6 u7))))] H := hP
  have hD : va_D A [(hm, .inr (1, [.ref a, .ref b, .ref qa, .ref qu, .ref qb, .ref qh, .ref qm])), (qu, .inl (cJ, 8, .inr (.inl (f8 u0 u1 u2 u3 u4 u5 u6 u7)))), (qb, .inl (cJ, 8, .inr (.inl (f8 u0 u1 v2 v3 v4 v5 v6 v7)))), (qh, .inl (cJ, 8, .inr (.inl (f8 w0 w1 w2 w3 w4 w5 u6 u7)))), (qm, .inl (cJ, 8, .inr (.inl (f8 (mixL u0 u2 t) (mixL u1 u3 t) (mixL u2 u4 t) u3 u4 u5 u6 u7))))] := hD
  refine lv_iinc (v := 3) (lv' := [(4, .int 3), (3, .int 0), (0, .ref hm), (1, .long t)]) hx hb d_M_part_150 hl (k := 0) rfl (by first | exact nI_add _ 1 | rfl | decide) (by decide) rfl (fun ls hl => ?_)
  refine lv_goto (tgt := 110) hx hb d_M_part_153 (by decide) ?_
  refine lv_iload hx hb d_M_part_110 (lv_at hl 0 rfl) ?_
  refine lv_iconst (v := 2) hx hb d_M_part_112 (by decide) ?_
  refine lv_iadd hx hb d_M_part_113 ?_
  refine tp_i (5) (by decide) ?_
  refine lv_bipush (v := 8) hx hb d_M_part_114 (by decide) ?_
  refine lv_iconst (v := 2) hx hb d_M_part_116 (by decide) ?_
  refine lv_iload_n hx hb d_M_part_117 rfl (lv_at hl 1 rfl) ?_
  refine lv_imul hx hb d_M_part_118 ?_
  refine tp_i (0) (by decide) ?_
  refine lv_isub hx hb d_M_part_119 ?_
  refine tp_i (8) (by decide) ?_
  refine bn_ge (a1 := 5) (b1 := 8) (tgt := 156) hx hb (by omega) (by omega) d_M_part_120 (by decide) (fun c_17 => ?_) (fun c_17 => ?_)
  · exact absurd c_17 (by decide)
  refine lv_aload_n hx hb d_M_part_123 rfl (lv_at hl 2 rfl) ?_
  refine va_get (D := D) (ci := 1) (v := .ref qm) (C := R_M) (T := T_M) (N := 7) hx hb hts (ui_M _) hown hK hP 0 rfl rfl 6 (by decide) (hts _ (gwc gw_515)) (fun _ h9 => h9) rfl d_M_part_124 ?_
  refine lv_iload hx hb d_M_part_127 (lv_at hl 0 rfl) ?_
  refine lv_aload_n hx hb d_M_part_129 rfl (lv_at hl 2 rfl) ?_
  refine va_get (D := D) (ci := 1) (v := .ref qm) (C := R_M) (T := T_M) (N := 7) hx hb hts (ui_M _) hown hK hP 0 rfl rfl 6 (by decide) (hts _ (gwc gw_515)) (fun _ h9 => h9) rfl d_M_part_130 ?_
  refine lv_iload hx hb d_M_part_133 (lv_at hl 0 rfl) ?_
  refine ld_l hx hb hK hP 4 2 rfl rfl 3 (by omega) (by omega) d_M_part_135 ?_
  refine tp_l (u3) (rfl) ?_
  refine lv_aload_n hx hb d_M_part_136 rfl (lv_at hl 2 rfl) ?_
  refine va_get (D := D) (ci := 1) (v := .ref qm) (C := R_M) (T := T_M) (N := 7) hx hb hts (ui_M _) hown hK hP 0 rfl rfl 6 (by decide) (hts _ (gwc gw_515)) (fun _ h9 => h9) rfl d_M_part_137 ?_
  refine lv_iload hx hb d_M_part_140 (lv_at hl 0 rfl) ?_
  refine lv_iconst (v := 2) hx hb d_M_part_142 (by decide) ?_
  refine lv_iadd hx hb d_M_part_143 ?_
  refine tp_i (5) (by decide) ?_
  refine ld_l hx hb hK hP 4 2 rfl rfl 5 (by omega) (by omega) d_M_part_144 ?_
  refine tp_l (u5) (rfl) ?_
  refine lv_lload_n hx hb d_M_part_145 rfl (lv_at hl 3 rfl) ?_
  refine ct_callS (av := [.long u3, .long u5, .long t]) (rest := [.int 3, .ref qm]) (wr := [(hm, .inr (1, [.ref a, .ref b, .ref qa, .ref qu, .ref qb, .ref qh, .ref qm])), (qu, .inl (cJ, 8, .inr (.inl (f8 u0 u1 u2 u3 u4 u5 u6 u7)))), (qb, .inl (cJ, 8, .inr (.inl (f8 u0 u1 v2 v3 v4 v5 v6 v7)))), (qh, .inl (cJ, 8, .inr (.inl (f8 w0 w1 w2 w3 w4 w5 u6 u7)))), (qm, .inl (cJ, 8, .inr (.inl (f8 (mixL u0 u2 t) (mixL u1 u3 t) (mixL u2 u4 t) u3 u4 u5 u6 u7))))]) (n := 3) (c_M_mix l D cI cB cJ qQ  u3 u5 t ) hx hb hml hown hts (amb_ok qQ) hK hP hD hS hA hM (gi_S gw_650 gw_651 gw_33 gw_652) rfl (by decide +kernel) ⟨by omega, by omega⟩ [] [0, 1, 2, 3, 4] rfl rfl rfl rfl (by decide) rfl hl.1 rfl (Nat.le_of_ble_eq_true rfl) d_M_part_146 ⟨by omega, by omega⟩ (fun u_18 H locs hok hP hD hS => ?_)
  have hP : va_P D cl [(hm, .inr (1, [.ref a, .ref b, .ref qa, .ref qu, .ref qb, .ref qh, .ref qm])), (qu, .inl (cJ, 8, .inr (.inl (f8 u0 u1 u2 u3 u4 u5 u6 u7)))), (qb, .inl (cJ, 8, .inr (.inl (f8 u0 u1 v2 v3 v4 v5 v6 v7)))), (qh, .inl (cJ, 8, .inr (.inl (f8 w0 w1 w2 w3 w4 w5 u6 u7)))), (qm, .inl (cJ, 8, .inr (.inl (f8 (mixL u0 u2 t) (mixL u1 u3 t) (mixL u2 u4 t) u3 u4 u5 u6 u7))))] H := hP
  have hD : va_D A [(hm, .inr (1, [.ref a, .ref b, .ref qa, .ref qu, .ref qb, .ref qh, .ref qm])), (qu, .inl (cJ, 8, .inr (.inl (f8 u0 u1 u2 u3 u4 u5 u6 u7)))), (qb, .inl (cJ, 8, .inr (.inl (f8 u0 u1 v2 v3 v4 v5 v6 v7)))), (qh, .inl (cJ, 8, .inr (.inl (f8 w0 w1 w2 w3 w4 w5 u6 u7)))), (qm, .inl (cJ, 8, .inr (.inl (f8 (mixL u0 u2 t) (mixL u1 u3 t) (mixL u2 u4 t) u3 u4 u5 u6 u7))))] := hD
  refine W.eq (g2 := F0 m 149 ls [.long (mixL u3 u5 t), .int 3, .ref qm]) rfl ?_
  refine sf_l (f8 (mixL u0 u2 t) (mixL u1 u3 t) (mixL u2 u4 t) (mixL u3 u5 t) u4 u5 u6 u7) hx hb hK hP hD hS 4 2 rfl rfl 3 f8_3 (by decide) (by decide) d_M_part_149 (fun H locs hP hD hS => ?_)
  have hP : va_P D cl [(hm, .inr (1, [.ref a, .ref b, .ref qa, .ref qu, .ref qb, .ref qh, .ref qm])), (qu, .inl (cJ, 8, .inr (.inl (f8 u0 u1 u2 u3 u4 u5 u6 u7)))), (qb, .inl (cJ, 8, .inr (.inl (f8 u0 u1 v2 v3 v4 v5 v6 v7)))), (qh, .inl (cJ, 8, .inr (.inl (f8 w0 w1 w2 w3 w4 w5 u6 u7)))), (qm, .inl (cJ, 8, .inr (.inl (f8 (mixL u0 u2 t) (mixL u1 u3 t) (mixL u2 u4 t) (mixL u3 u5 t) u4 u5 u6 u7))))] H := hP
  have hD : va_D A [(hm, .inr (1, [.ref a, .ref b, .ref qa, .ref qu, .ref qb, .ref qh, .ref qm])), (qu, .inl (cJ, 8, .inr (.inl (f8 u0 u1 u2 u3 u4 u5 u6 u7)))), (qb, .inl (cJ, 8, .inr (.inl (f8 u0 u1 v2 v3 v4 v5 v6 v7)))), (qh, .inl (cJ, 8, .inr (.inl (f8 w0 w1 w2 w3 w4 w5 u6 u7)))), (qm, .inl (cJ, 8, .inr (.inl (f8 (mixL u0 u2 t) (mixL u1 u3 t) (mixL u2 u4 t) (mixL u3 u5 t) u4 u5 u6 u7))))] := hD
  refine lv_iinc (v := 4) (lv' := [(4, .int 4), (3, .int 0), (0, .ref hm), (1, .long t)]) hx hb d_M_part_150 hl (k := 0) rfl (by first | exact nI_add _ 1 | rfl | decide) (by decide) rfl (fun ls hl => ?_)
  refine lv_goto (tgt := 110) hx hb d_M_part_153 (by decide) ?_
  refine lv_iload hx hb d_M_part_110 (lv_at hl 0 rfl) ?_
  refine lv_iconst (v := 2) hx hb d_M_part_112 (by decide) ?_
  refine lv_iadd hx hb d_M_part_113 ?_
  refine tp_i (6) (by decide) ?_
  refine lv_bipush (v := 8) hx hb d_M_part_114 (by decide) ?_
  refine lv_iconst (v := 2) hx hb d_M_part_116 (by decide) ?_
  refine lv_iload_n hx hb d_M_part_117 rfl (lv_at hl 1 rfl) ?_
  refine lv_imul hx hb d_M_part_118 ?_
  refine tp_i (0) (by decide) ?_
  refine lv_isub hx hb d_M_part_119 ?_
  refine tp_i (8) (by decide) ?_
  refine bn_ge (a1 := 6) (b1 := 8) (tgt := 156) hx hb (by omega) (by omega) d_M_part_120 (by decide) (fun c_19 => ?_) (fun c_19 => ?_)
  · exact absurd c_19 (by decide)
  refine lv_aload_n hx hb d_M_part_123 rfl (lv_at hl 2 rfl) ?_
  refine va_get (D := D) (ci := 1) (v := .ref qm) (C := R_M) (T := T_M) (N := 7) hx hb hts (ui_M _) hown hK hP 0 rfl rfl 6 (by decide) (hts _ (gwc gw_515)) (fun _ h9 => h9) rfl d_M_part_124 ?_
  refine lv_iload hx hb d_M_part_127 (lv_at hl 0 rfl) ?_
  refine lv_aload_n hx hb d_M_part_129 rfl (lv_at hl 2 rfl) ?_
  refine va_get (D := D) (ci := 1) (v := .ref qm) (C := R_M) (T := T_M) (N := 7) hx hb hts (ui_M _) hown hK hP 0 rfl rfl 6 (by decide) (hts _ (gwc gw_515)) (fun _ h9 => h9) rfl d_M_part_130 ?_
  refine lv_iload hx hb d_M_part_133 (lv_at hl 0 rfl) ?_
  refine ld_l hx hb hK hP 4 2 rfl rfl 4 (by omega) (by omega) d_M_part_135 ?_
  refine tp_l (u4) (rfl) ?_
  refine lv_aload_n hx hb d_M_part_136 rfl (lv_at hl 2 rfl) ?_
  refine va_get (D := D) (ci := 1) (v := .ref qm) (C := R_M) (T := T_M) (N := 7) hx hb hts (ui_M _) hown hK hP 0 rfl rfl 6 (by decide) (hts _ (gwc gw_515)) (fun _ h9 => h9) rfl d_M_part_137 ?_
  refine lv_iload hx hb d_M_part_140 (lv_at hl 0 rfl) ?_
  refine lv_iconst (v := 2) hx hb d_M_part_142 (by decide) ?_
  refine lv_iadd hx hb d_M_part_143 ?_
  refine tp_i (6) (by decide) ?_
  refine ld_l hx hb hK hP 4 2 rfl rfl 6 (by omega) (by omega) d_M_part_144 ?_
  refine tp_l (u6) (rfl) ?_
  refine lv_lload_n hx hb d_M_part_145 rfl (lv_at hl 3 rfl) ?_
  refine ct_callS (av := [.long u4, .long u6, .long t]) (rest := [.int 4, .ref qm]) (wr := [(hm, .inr (1, [.ref a, .ref b, .ref qa, .ref qu, .ref qb, .ref qh, .ref qm])), (qu, .inl (cJ, 8, .inr (.inl (f8 u0 u1 u2 u3 u4 u5 u6 u7)))), (qb, .inl (cJ, 8, .inr (.inl (f8 u0 u1 v2 v3 v4 v5 v6 v7)))), (qh, .inl (cJ, 8, .inr (.inl (f8 w0 w1 w2 w3 w4 w5 u6 u7)))), (qm, .inl (cJ, 8, .inr (.inl (f8 (mixL u0 u2 t) (mixL u1 u3 t) (mixL u2 u4 t) (mixL u3 u5 t) u4 u5 u6 u7))))]) (n := 3) (c_M_mix l D cI cB cJ qQ  u4 u6 t ) hx hb hml hown hts (amb_ok qQ) hK hP hD hS hA hM (gi_S gw_650 gw_651 gw_33 gw_652) rfl (by decide +kernel) ⟨by omega, by omega⟩ [] [0, 1, 2, 3, 4] rfl rfl rfl rfl (by decide) rfl hl.1 rfl (Nat.le_of_ble_eq_true rfl) d_M_part_146 ⟨by omega, by omega⟩ (fun u_20 H locs hok hP hD hS => ?_)
  have hP : va_P D cl [(hm, .inr (1, [.ref a, .ref b, .ref qa, .ref qu, .ref qb, .ref qh, .ref qm])), (qu, .inl (cJ, 8, .inr (.inl (f8 u0 u1 u2 u3 u4 u5 u6 u7)))), (qb, .inl (cJ, 8, .inr (.inl (f8 u0 u1 v2 v3 v4 v5 v6 v7)))), (qh, .inl (cJ, 8, .inr (.inl (f8 w0 w1 w2 w3 w4 w5 u6 u7)))), (qm, .inl (cJ, 8, .inr (.inl (f8 (mixL u0 u2 t) (mixL u1 u3 t) (mixL u2 u4 t) (mixL u3 u5 t) u4 u5 u6 u7))))] H := hP
  have hD : va_D A [(hm, .inr (1, [.ref a, .ref b, .ref qa, .ref qu, .ref qb, .ref qh, .ref qm])), (qu, .inl (cJ, 8, .inr (.inl (f8 u0 u1 u2 u3 u4 u5 u6 u7)))), (qb, .inl (cJ, 8, .inr (.inl (f8 u0 u1 v2 v3 v4 v5 v6 v7)))), (qh, .inl (cJ, 8, .inr (.inl (f8 w0 w1 w2 w3 w4 w5 u6 u7)))), (qm, .inl (cJ, 8, .inr (.inl (f8 (mixL u0 u2 t) (mixL u1 u3 t) (mixL u2 u4 t) (mixL u3 u5 t) u4 u5 u6 u7))))] := hD
  refine W.eq (g2 := F0 m 149 ls [.long (mixL u4 u6 t), .int 4, .ref qm]) rfl ?_
  refine sf_l (f8 (mixL u0 u2 t) (mixL u1 u3 t) (mixL u2 u4 t) (mixL u3 u5 t) (mixL u4 u6 t) u5 u6 u7) hx hb hK hP hD hS 4 2 rfl rfl 4 f8_4 (by decide) (by decide) d_M_part_149 (fun H locs hP hD hS => ?_)
  have hP : va_P D cl [(hm, .inr (1, [.ref a, .ref b, .ref qa, .ref qu, .ref qb, .ref qh, .ref qm])), (qu, .inl (cJ, 8, .inr (.inl (f8 u0 u1 u2 u3 u4 u5 u6 u7)))), (qb, .inl (cJ, 8, .inr (.inl (f8 u0 u1 v2 v3 v4 v5 v6 v7)))), (qh, .inl (cJ, 8, .inr (.inl (f8 w0 w1 w2 w3 w4 w5 u6 u7)))), (qm, .inl (cJ, 8, .inr (.inl (f8 (mixL u0 u2 t) (mixL u1 u3 t) (mixL u2 u4 t) (mixL u3 u5 t) (mixL u4 u6 t) u5 u6 u7))))] H := hP
  have hD : va_D A [(hm, .inr (1, [.ref a, .ref b, .ref qa, .ref qu, .ref qb, .ref qh, .ref qm])), (qu, .inl (cJ, 8, .inr (.inl (f8 u0 u1 u2 u3 u4 u5 u6 u7)))), (qb, .inl (cJ, 8, .inr (.inl (f8 u0 u1 v2 v3 v4 v5 v6 v7)))), (qh, .inl (cJ, 8, .inr (.inl (f8 w0 w1 w2 w3 w4 w5 u6 u7)))), (qm, .inl (cJ, 8, .inr (.inl (f8 (mixL u0 u2 t) (mixL u1 u3 t) (mixL u2 u4 t) (mixL u3 u5 t) (mixL u4 u6 t) u5 u6 u7))))] := hD
  refine lv_iinc (v := 5) (lv' := [(4, .int 5), (3, .int 0), (0, .ref hm), (1, .long t)]) hx hb d_M_part_150 hl (k := 0) rfl (by first | exact nI_add _ 1 | rfl | decide) (by decide) rfl (fun ls hl => ?_)
  refine lv_goto (tgt := 110) hx hb d_M_part_153 (by decide) ?_
  refine lv_iload hx hb d_M_part_110 (lv_at hl 0 rfl) ?_
  refine lv_iconst (v := 2) hx hb d_M_part_112 (by decide) ?_
  refine lv_iadd hx hb d_M_part_113 ?_
  refine tp_i (7) (by decide) ?_
  refine lv_bipush (v := 8) hx hb d_M_part_114 (by decide) ?_
  refine lv_iconst (v := 2) hx hb d_M_part_116 (by decide) ?_
  refine lv_iload_n hx hb d_M_part_117 rfl (lv_at hl 1 rfl) ?_
  refine lv_imul hx hb d_M_part_118 ?_
  refine tp_i (0) (by decide) ?_
  refine lv_isub hx hb d_M_part_119 ?_
  refine tp_i (8) (by decide) ?_
  refine bn_ge (a1 := 7) (b1 := 8) (tgt := 156) hx hb (by omega) (by omega) d_M_part_120 (by decide) (fun c_21 => ?_) (fun c_21 => ?_)
  · exact absurd c_21 (by decide)
  refine lv_aload_n hx hb d_M_part_123 rfl (lv_at hl 2 rfl) ?_
  refine va_get (D := D) (ci := 1) (v := .ref qm) (C := R_M) (T := T_M) (N := 7) hx hb hts (ui_M _) hown hK hP 0 rfl rfl 6 (by decide) (hts _ (gwc gw_515)) (fun _ h9 => h9) rfl d_M_part_124 ?_
  refine lv_iload hx hb d_M_part_127 (lv_at hl 0 rfl) ?_
  refine lv_aload_n hx hb d_M_part_129 rfl (lv_at hl 2 rfl) ?_
  refine va_get (D := D) (ci := 1) (v := .ref qm) (C := R_M) (T := T_M) (N := 7) hx hb hts (ui_M _) hown hK hP 0 rfl rfl 6 (by decide) (hts _ (gwc gw_515)) (fun _ h9 => h9) rfl d_M_part_130 ?_
  refine lv_iload hx hb d_M_part_133 (lv_at hl 0 rfl) ?_
  refine ld_l hx hb hK hP 4 2 rfl rfl 5 (by omega) (by omega) d_M_part_135 ?_
  refine tp_l (u5) (rfl) ?_
  refine lv_aload_n hx hb d_M_part_136 rfl (lv_at hl 2 rfl) ?_
  refine va_get (D := D) (ci := 1) (v := .ref qm) (C := R_M) (T := T_M) (N := 7) hx hb hts (ui_M _) hown hK hP 0 rfl rfl 6 (by decide) (hts _ (gwc gw_515)) (fun _ h9 => h9) rfl d_M_part_137 ?_
  refine lv_iload hx hb d_M_part_140 (lv_at hl 0 rfl) ?_
  refine lv_iconst (v := 2) hx hb d_M_part_142 (by decide) ?_
  refine lv_iadd hx hb d_M_part_143 ?_
  refine tp_i (7) (by decide) ?_
  refine ld_l hx hb hK hP 4 2 rfl rfl 7 (by omega) (by omega) d_M_part_144 ?_
  refine tp_l (u7) (rfl) ?_
  refine lv_lload_n hx hb d_M_part_145 rfl (lv_at hl 3 rfl) ?_
  refine ct_callS (av := [.long u5, .long u7, .long t]) (rest := [.int 5, .ref qm]) (wr := [(hm, .inr (1, [.ref a, .ref b, .ref qa, .ref qu, .ref qb, .ref qh, .ref qm])), (qu, .inl (cJ, 8, .inr (.inl (f8 u0 u1 u2 u3 u4 u5 u6 u7)))), (qb, .inl (cJ, 8, .inr (.inl (f8 u0 u1 v2 v3 v4 v5 v6 v7)))), (qh, .inl (cJ, 8, .inr (.inl (f8 w0 w1 w2 w3 w4 w5 u6 u7)))), (qm, .inl (cJ, 8, .inr (.inl (f8 (mixL u0 u2 t) (mixL u1 u3 t) (mixL u2 u4 t) (mixL u3 u5 t) (mixL u4 u6 t) u5 u6 u7))))]) (n := 3) (c_M_mix l D cI cB cJ qQ  u5 u7 t ) hx hb hml hown hts (amb_ok qQ) hK hP hD hS hA hM (gi_S gw_650 gw_651 gw_33 gw_652) rfl (by decide +kernel) ⟨by omega, by omega⟩ [] [0, 1, 2, 3, 4] rfl rfl rfl rfl (by decide) rfl hl.1 rfl (Nat.le_of_ble_eq_true rfl) d_M_part_146 ⟨by omega, by omega⟩ (fun u_22 H locs hok hP hD hS => ?_)
  have hP : va_P D cl [(hm, .inr (1, [.ref a, .ref b, .ref qa, .ref qu, .ref qb, .ref qh, .ref qm])), (qu, .inl (cJ, 8, .inr (.inl (f8 u0 u1 u2 u3 u4 u5 u6 u7)))), (qb, .inl (cJ, 8, .inr (.inl (f8 u0 u1 v2 v3 v4 v5 v6 v7)))), (qh, .inl (cJ, 8, .inr (.inl (f8 w0 w1 w2 w3 w4 w5 u6 u7)))), (qm, .inl (cJ, 8, .inr (.inl (f8 (mixL u0 u2 t) (mixL u1 u3 t) (mixL u2 u4 t) (mixL u3 u5 t) (mixL u4 u6 t) u5 u6 u7))))] H := hP
  have hD : va_D A [(hm, .inr (1, [.ref a, .ref b, .ref qa, .ref qu, .ref qb, .ref qh, .ref qm])), (qu, .inl (cJ, 8, .inr (.inl (f8 u0 u1 u2 u3 u4 u5 u6 u7)))), (qb, .inl (cJ, 8, .inr (.inl (f8 u0 u1 v2 v3 v4 v5 v6 v7)))), (qh, .inl (cJ, 8, .inr (.inl (f8 w0 w1 w2 w3 w4 w5 u6 u7)))), (qm, .inl (cJ, 8, .inr (.inl (f8 (mixL u0 u2 t) (mixL u1 u3 t) (mixL u2 u4 t) (mixL u3 u5 t) (mixL u4 u6 t) u5 u6 u7))))] := hD
  refine W.eq (g2 := F0 m 149 ls [.long (mixL u5 u7 t), .int 5, .ref qm]) rfl ?_
  refine sf_l (f8 (mixL u0 u2 t) (mixL u1 u3 t) (mixL u2 u4 t) (mixL u3 u5 t) (mixL u4 u6 t) (mixL u5 u7 t) u6 u7) hx hb hK hP hD hS 4 2 rfl rfl 5 f8_5 (by decide) (by decide) d_M_part_149 (fun H locs hP hD hS => ?_)
  have hP : va_P D cl [(hm, .inr (1, [.ref a, .ref b, .ref qa, .ref qu, .ref qb, .ref qh, .ref qm])), (qu, .inl (cJ, 8, .inr (.inl (f8 u0 u1 u2 u3 u4 u5 u6 u7)))), (qb, .inl (cJ, 8, .inr (.inl (f8 u0 u1 v2 v3 v4 v5 v6 v7)))), (qh, .inl (cJ, 8, .inr (.inl (f8 w0 w1 w2 w3 w4 w5 u6 u7)))), (qm, .inl (cJ, 8, .inr (.inl (f8 (mixL u0 u2 t) (mixL u1 u3 t) (mixL u2 u4 t) (mixL u3 u5 t) (mixL u4 u6 t) (mixL u5 u7 t) u6 u7))))] H := hP
  have hD : va_D A [(hm, .inr (1, [.ref a, .ref b, .ref qa, .ref qu, .ref qb, .ref qh, .ref qm])), (qu, .inl (cJ, 8, .inr (.inl (f8 u0 u1 u2 u3 u4 u5 u6 u7)))), (qb, .inl (cJ, 8, .inr (.inl (f8 u0 u1 v2 v3 v4 v5 v6 v7)))), (qh, .inl (cJ, 8, .inr (.inl (f8 w0 w1 w2 w3 w4 w5 u6 u7)))), (qm, .inl (cJ, 8, .inr (.inl (f8 (mixL u0 u2 t) (mixL u1 u3 t) (mixL u2 u4 t) (mixL u3 u5 t) (mixL u4 u6 t) (mixL u5 u7 t) u6 u7))))] := hD
  refine lv_iinc (v := 6) (lv' := [(4, .int 6), (3, .int 0), (0, .ref hm), (1, .long t)]) hx hb d_M_part_150 hl (k := 0) rfl (by first | exact nI_add _ 1 | rfl | decide) (by decide) rfl (fun ls hl => ?_)
  refine lv_goto (tgt := 110) hx hb d_M_part_153 (by decide) ?_
  refine lv_iload hx hb d_M_part_110 (lv_at hl 0 rfl) ?_
  refine lv_iconst (v := 2) hx hb d_M_part_112 (by decide) ?_
  refine lv_iadd hx hb d_M_part_113 ?_
  refine tp_i (8) (by decide) ?_
  refine lv_bipush (v := 8) hx hb d_M_part_114 (by decide) ?_
  refine lv_iconst (v := 2) hx hb d_M_part_116 (by decide) ?_
  refine lv_iload_n hx hb d_M_part_117 rfl (lv_at hl 1 rfl) ?_
  refine lv_imul hx hb d_M_part_118 ?_
  refine tp_i (0) (by decide) ?_
  refine lv_isub hx hb d_M_part_119 ?_
  refine tp_i (8) (by decide) ?_
  refine bn_ge (a1 := 8) (b1 := 8) (tgt := 156) hx hb (by omega) (by omega) d_M_part_120 (by decide) (fun c_23 => ?_) (fun c_23 => ?_)
  rotate_left
  · exact absurd c_23 (by decide)
  refine lv_iinc (v := 1) (lv' := [(3, .int 1), (4, .int 6), (0, .ref hm), (1, .long t)]) hx hb d_M_part_156 hl (k := 1) rfl (by first | exact nI_add _ 1 | rfl | decide) (by decide) rfl (fun ls hl => ?_)
  refine lv_goto (tgt := 28) hx hb d_M_part_159 (by decide) ?_
  refine lv_iload_n hx hb d_M_part_28 rfl (lv_at hl 0 rfl) ?_
  refine lv_iconst (v := 4) hx hb d_M_part_29 (by decide) ?_
  refine bn_ge (a1 := 1) (b1 := 4) (tgt := 162) hx hb (by omega) (by omega) d_M_part_30 (by decide) (fun c_24 => ?_) (fun c_24 => ?_)
  · exact absurd c_24 (by decide)
  refine lv_aload_n hx hb d_M_part_33 rfl (lv_at hl 2 rfl) ?_
  refine va_get (D := D) (ci := 1) (v := .ref qb) (C := R_M) (T := T_M) (N := 7) hx hb hts (ui_M _) hown hK hP 0 rfl rfl 4 (by decide) (hts _ (gwc gw_513)) (fun _ h9 => h9) rfl d_M_part_34 ?_
  refine lv_iconst (v := 2) hx hb d_M_part_37 (by decide) ?_
  refine lv_iload_n hx hb d_M_part_38 rfl (lv_at hl 0 rfl) ?_
  refine lv_imul hx hb d_M_part_39 ?_
  refine tp_i (2) (by decide) ?_
  refine lv_aload_n hx hb d_M_part_40 rfl (lv_at hl 2 rfl) ?_
  refine va_get (D := D) (ci := 1) (v := .ref qm) (C := R_M) (T := T_M) (N := 7) hx hb hts (ui_M _) hown hK hP 0 rfl rfl 6 (by decide) (hts _ (gwc gw_515)) (fun _ h9 => h9) rfl d_M_part_41 ?_
  refine lv_iconst (v := 0) hx hb d_M_part_44 (by decide) ?_
  refine ld_l hx hb hK hP 4 2 rfl rfl 0 (by omega) (by omega) d_M_part_45 ?_
  refine tp_l (mixL u0 u2 t) (rfl) ?_
  refine sf_l (f8 u0 u1 (mixL u0 u2 t) v3 v4 v5 v6 v7) hx hb hK hP hD hS 2 2 rfl rfl 2 f8_2 (by decide) (by decide) d_M_part_46 (fun H locs hP hD hS => ?_)
  have hP : va_P D cl [(hm, .inr (1, [.ref a, .ref b, .ref qa, .ref qu, .ref qb, .ref qh, .ref qm])), (qu, .inl (cJ, 8, .inr (.inl (f8 u0 u1 u2 u3 u4 u5 u6 u7)))), (qb, .inl (cJ, 8, .inr (.inl (f8 u0 u1 (mixL u0 u2 t) v3 v4 v5 v6 v7)))), (qh, .inl (cJ, 8, .inr (.inl (f8 w0 w1 w2 w3 w4 w5 u6 u7)))), (qm, .inl (cJ, 8, .inr (.inl (f8 (mixL u0 u2 t) (mixL u1 u3 t) (mixL u2 u4 t) (mixL u3 u5 t) (mixL u4 u6 t) (mixL u5 u7 t) u6 u7))))] H := hP
  have hD : va_D A [(hm, .inr (1, [.ref a, .ref b, .ref qa, .ref qu, .ref qb, .ref qh, .ref qm])), (qu, .inl (cJ, 8, .inr (.inl (f8 u0 u1 u2 u3 u4 u5 u6 u7)))), (qb, .inl (cJ, 8, .inr (.inl (f8 u0 u1 (mixL u0 u2 t) v3 v4 v5 v6 v7)))), (qh, .inl (cJ, 8, .inr (.inl (f8 w0 w1 w2 w3 w4 w5 u6 u7)))), (qm, .inl (cJ, 8, .inr (.inl (f8 (mixL u0 u2 t) (mixL u1 u3 t) (mixL u2 u4 t) (mixL u3 u5 t) (mixL u4 u6 t) (mixL u5 u7 t) u6 u7))))] := hD
  refine lv_aload_n hx hb d_M_part_47 rfl (lv_at hl 2 rfl) ?_
  refine va_get (D := D) (ci := 1) (v := .ref qb) (C := R_M) (T := T_M) (N := 7) hx hb hts (ui_M _) hown hK hP 0 rfl rfl 4 (by decide) (hts _ (gwc gw_513)) (fun _ h9 => h9) rfl d_M_part_48 ?_
  refine lv_iconst (v := 2) hx hb d_M_part_51 (by decide) ?_
  refine lv_iload_n hx hb d_M_part_52 rfl (lv_at hl 0 rfl) ?_
  refine lv_imul hx hb d_M_part_53 ?_
  refine tp_i (2) (by decide) ?_
  refine lv_iconst (v := 1) hx hb d_M_part_54 (by decide) ?_
  refine lv_iadd hx hb d_M_part_55 ?_
  refine tp_i (3) (by decide) ?_
  refine lv_aload_n hx hb d_M_part_56 rfl (lv_at hl 2 rfl) ?_
  refine va_get (D := D) (ci := 1) (v := .ref qm) (C := R_M) (T := T_M) (N := 7) hx hb hts (ui_M _) hown hK hP 0 rfl rfl 6 (by decide) (hts _ (gwc gw_515)) (fun _ h9 => h9) rfl d_M_part_57 ?_
  refine lv_iconst (v := 1) hx hb d_M_part_60 (by decide) ?_
  refine ld_l hx hb hK hP 4 2 rfl rfl 1 (by omega) (by omega) d_M_part_61 ?_
  refine tp_l (mixL u1 u3 t) (rfl) ?_
  refine sf_l (f8 u0 u1 (mixL u0 u2 t) (mixL u1 u3 t) v4 v5 v6 v7) hx hb hK hP hD hS 2 2 rfl rfl 3 f8_3 (by decide) (by decide) d_M_part_62 (fun H locs hP hD hS => ?_)
  have hP : va_P D cl [(hm, .inr (1, [.ref a, .ref b, .ref qa, .ref qu, .ref qb, .ref qh, .ref qm])), (qu, .inl (cJ, 8, .inr (.inl (f8 u0 u1 u2 u3 u4 u5 u6 u7)))), (qb, .inl (cJ, 8, .inr (.inl (f8 u0 u1 (mixL u0 u2 t) (mixL u1 u3 t) v4 v5 v6 v7)))), (qh, .inl (cJ, 8, .inr (.inl (f8 w0 w1 w2 w3 w4 w5 u6 u7)))), (qm, .inl (cJ, 8, .inr (.inl (f8 (mixL u0 u2 t) (mixL u1 u3 t) (mixL u2 u4 t) (mixL u3 u5 t) (mixL u4 u6 t) (mixL u5 u7 t) u6 u7))))] H := hP
  have hD : va_D A [(hm, .inr (1, [.ref a, .ref b, .ref qa, .ref qu, .ref qb, .ref qh, .ref qm])), (qu, .inl (cJ, 8, .inr (.inl (f8 u0 u1 u2 u3 u4 u5 u6 u7)))), (qb, .inl (cJ, 8, .inr (.inl (f8 u0 u1 (mixL u0 u2 t) (mixL u1 u3 t) v4 v5 v6 v7)))), (qh, .inl (cJ, 8, .inr (.inl (f8 w0 w1 w2 w3 w4 w5 u6 u7)))), (qm, .inl (cJ, 8, .inr (.inl (f8 (mixL u0 u2 t) (mixL u1 u3 t) (mixL u2 u4 t) (mixL u3 u5 t) (mixL u4 u6 t) (mixL u5 u7 t) u6 u7))))] := hD
  refine lv_aload_n hx hb d_M_part_63 rfl (lv_at hl 2 rfl) ?_
  refine va_get (D := D) (ci := 1) (v := .ref qh) (C := R_M) (T := T_M) (N := 7) hx hb hts (ui_M _) hown hK hP 0 rfl rfl 5 (by decide) (hts _ (gwc gw_514)) (fun _ h9 => h9) rfl d_M_part_64 ?_
  refine lv_bipush (v := 6) hx hb d_M_part_67 (by decide) ?_
  refine lv_iconst (v := 2) hx hb d_M_part_69 (by decide) ?_
  refine lv_iload_n hx hb d_M_part_70 rfl (lv_at hl 0 rfl) ?_
  refine lv_imul hx hb d_M_part_71 ?_
  refine tp_i (2) (by decide) ?_
  refine lv_isub hx hb d_M_part_72 ?_
  refine tp_i (4) (by decide) ?_
  refine lv_aload_n hx hb d_M_part_73 rfl (lv_at hl 2 rfl) ?_
  refine va_get (D := D) (ci := 1) (v := .ref qm) (C := R_M) (T := T_M) (N := 7) hx hb hts (ui_M _) hown hK hP 0 rfl rfl 6 (by decide) (hts _ (gwc gw_515)) (fun _ h9 => h9) rfl d_M_part_74 ?_
  refine lv_bipush (v := 6) hx hb d_M_part_77 (by decide) ?_
  refine lv_iconst (v := 2) hx hb d_M_part_79 (by decide) ?_
  refine lv_iload_n hx hb d_M_part_80 rfl (lv_at hl 0 rfl) ?_
  refine lv_imul hx hb d_M_part_81 ?_
  refine tp_i (2) (by decide) ?_
  refine lv_isub hx hb d_M_part_82 ?_
  refine tp_i (4) (by decide) ?_
  refine ld_l hx hb hK hP 4 2 rfl rfl 4 (by omega) (by omega) d_M_part_83 ?_
  refine tp_l (mixL u4 u6 t) (rfl) ?_
  refine sf_l (f8 w0 w1 w2 w3 (mixL u4 u6 t) w5 u6 u7) hx hb hK hP hD hS 3 2 rfl rfl 4 f8_4 (by decide) (by decide) d_M_part_84 (fun H locs hP hD hS => ?_)
  have hP : va_P D cl [(hm, .inr (1, [.ref a, .ref b, .ref qa, .ref qu, .ref qb, .ref qh, .ref qm])), (qu, .inl (cJ, 8, .inr (.inl (f8 u0 u1 u2 u3 u4 u5 u6 u7)))), (qb, .inl (cJ, 8, .inr (.inl (f8 u0 u1 (mixL u0 u2 t) (mixL u1 u3 t) v4 v5 v6 v7)))), (qh, .inl (cJ, 8, .inr (.inl (f8 w0 w1 w2 w3 (mixL u4 u6 t) w5 u6 u7)))), (qm, .inl (cJ, 8, .inr (.inl (f8 (mixL u0 u2 t) (mixL u1 u3 t) (mixL u2 u4 t) (mixL u3 u5 t) (mixL u4 u6 t) (mixL u5 u7 t) u6 u7))))] H := hP
  have hD : va_D A [(hm, .inr (1, [.ref a, .ref b, .ref qa, .ref qu, .ref qb, .ref qh, .ref qm])), (qu, .inl (cJ, 8, .inr (.inl (f8 u0 u1 u2 u3 u4 u5 u6 u7)))), (qb, .inl (cJ, 8, .inr (.inl (f8 u0 u1 (mixL u0 u2 t) (mixL u1 u3 t) v4 v5 v6 v7)))), (qh, .inl (cJ, 8, .inr (.inl (f8 w0 w1 w2 w3 (mixL u4 u6 t) w5 u6 u7)))), (qm, .inl (cJ, 8, .inr (.inl (f8 (mixL u0 u2 t) (mixL u1 u3 t) (mixL u2 u4 t) (mixL u3 u5 t) (mixL u4 u6 t) (mixL u5 u7 t) u6 u7))))] := hD
  refine lv_aload_n hx hb d_M_part_85 rfl (lv_at hl 2 rfl) ?_
  refine va_get (D := D) (ci := 1) (v := .ref qh) (C := R_M) (T := T_M) (N := 7) hx hb hts (ui_M _) hown hK hP 0 rfl rfl 5 (by decide) (hts _ (gwc gw_514)) (fun _ h9 => h9) rfl d_M_part_86 ?_
  refine lv_bipush (v := 7) hx hb d_M_part_89 (by decide) ?_
  refine lv_iconst (v := 2) hx hb d_M_part_91 (by decide) ?_
  refine lv_iload_n hx hb d_M_part_92 rfl (lv_at hl 0 rfl) ?_
  refine lv_imul hx hb d_M_part_93 ?_
  refine tp_i (2) (by decide) ?_
  refine lv_isub hx hb d_M_part_94 ?_
  refine tp_i (5) (by decide) ?_
  refine lv_aload_n hx hb d_M_part_95 rfl (lv_at hl 2 rfl) ?_
  refine va_get (D := D) (ci := 1) (v := .ref qm) (C := R_M) (T := T_M) (N := 7) hx hb hts (ui_M _) hown hK hP 0 rfl rfl 6 (by decide) (hts _ (gwc gw_515)) (fun _ h9 => h9) rfl d_M_part_96 ?_
  refine lv_bipush (v := 7) hx hb d_M_part_99 (by decide) ?_
  refine lv_iconst (v := 2) hx hb d_M_part_101 (by decide) ?_
  refine lv_iload_n hx hb d_M_part_102 rfl (lv_at hl 0 rfl) ?_
  refine lv_imul hx hb d_M_part_103 ?_
  refine tp_i (2) (by decide) ?_
  refine lv_isub hx hb d_M_part_104 ?_
  refine tp_i (5) (by decide) ?_
  refine ld_l hx hb hK hP 4 2 rfl rfl 5 (by omega) (by omega) d_M_part_105 ?_
  refine tp_l (mixL u5 u7 t) (rfl) ?_
  refine sf_l (f8 w0 w1 w2 w3 (mixL u4 u6 t) (mixL u5 u7 t) u6 u7) hx hb hK hP hD hS 3 2 rfl rfl 5 f8_5 (by decide) (by decide) d_M_part_106 (fun H locs hP hD hS => ?_)
  have hP : va_P D cl [(hm, .inr (1, [.ref a, .ref b, .ref qa, .ref qu, .ref qb, .ref qh, .ref qm])), (qu, .inl (cJ, 8, .inr (.inl (f8 u0 u1 u2 u3 u4 u5 u6 u7)))), (qb, .inl (cJ, 8, .inr (.inl (f8 u0 u1 (mixL u0 u2 t) (mixL u1 u3 t) v4 v5 v6 v7)))), (qh, .inl (cJ, 8, .inr (.inl (f8 w0 w1 w2 w3 (mixL u4 u6 t) (mixL u5 u7 t) u6 u7)))), (qm, .inl (cJ, 8, .inr (.inl (f8 (mixL u0 u2 t) (mixL u1 u3 t) (mixL u2 u4 t) (mixL u3 u5 t) (mixL u4 u6 t) (mixL u5 u7 t) u6 u7))))] H := hP
  have hD : va_D A [(hm, .inr (1, [.ref a, .ref b, .ref qa, .ref qu, .ref qb, .ref qh, .ref qm])), (qu, .inl (cJ, 8, .inr (.inl (f8 u0 u1 u2 u3 u4 u5 u6 u7)))), (qb, .inl (cJ, 8, .inr (.inl (f8 u0 u1 (mixL u0 u2 t) (mixL u1 u3 t) v4 v5 v6 v7)))), (qh, .inl (cJ, 8, .inr (.inl (f8 w0 w1 w2 w3 (mixL u4 u6 t) (mixL u5 u7 t) u6 u7)))), (qm, .inl (cJ, 8, .inr (.inl (f8 (mixL u0 u2 t) (mixL u1 u3 t) (mixL u2 u4 t) (mixL u3 u5 t) (mixL u4 u6 t) (mixL u5 u7 t) u6 u7))))] := hD
  refine lv_iconst (v := 0) hx hb d_M_part_107 (by decide) ?_
  refine lv_istore (lv' := [(4, .int 0), (3, .int 1), (0, .ref hm), (1, .long t)]) hx hb d_M_part_108 hl (by decide) rfl (fun ls hl => ?_)
  refine lv_iload hx hb d_M_part_110 (lv_at hl 0 rfl) ?_
  refine lv_iconst (v := 2) hx hb d_M_part_112 (by decide) ?_
  refine lv_iadd hx hb d_M_part_113 ?_
  refine tp_i (2) (by decide) ?_
  refine lv_bipush (v := 8) hx hb d_M_part_114 (by decide) ?_
  refine lv_iconst (v := 2) hx hb d_M_part_116 (by decide) ?_
  refine lv_iload_n hx hb d_M_part_117 rfl (lv_at hl 1 rfl) ?_
  refine lv_imul hx hb d_M_part_118 ?_
  refine tp_i (2) (by decide) ?_
  refine lv_isub hx hb d_M_part_119 ?_
  refine tp_i (6) (by decide) ?_
  refine bn_ge (a1 := 2) (b1 := 6) (tgt := 156) hx hb (by omega) (by omega) d_M_part_120 (by decide) (fun c_25 => ?_) (fun c_25 => ?_)
  · exact absurd c_25 (by decide)
  refine lv_aload_n hx hb d_M_part_123 rfl (lv_at hl 2 rfl) ?_
  refine va_get (D := D) (ci := 1) (v := .ref qm) (C := R_M) (T := T_M) (N := 7) hx hb hts (ui_M _) hown hK hP 0 rfl rfl 6 (by decide) (hts _ (gwc gw_515)) (fun _ h9 => h9) rfl d_M_part_124 ?_
  refine lv_iload hx hb d_M_part_127 (lv_at hl 0 rfl) ?_
  refine lv_aload_n hx hb d_M_part_129 rfl (lv_at hl 2 rfl) ?_
  refine va_get (D := D) (ci := 1) (v := .ref qm) (C := R_M) (T := T_M) (N := 7) hx hb hts (ui_M _) hown hK hP 0 rfl rfl 6 (by decide) (hts _ (gwc gw_515)) (fun _ h9 => h9) rfl d_M_part_130 ?_
  refine lv_iload hx hb d_M_part_133 (lv_at hl 0 rfl) ?_
  refine ld_l hx hb hK hP 4 2 rfl rfl 0 (by omega) (by omega) d_M_part_135 ?_
  refine tp_l (mixL u0 u2 t) (rfl) ?_
  refine lv_aload_n hx hb d_M_part_136 rfl (lv_at hl 2 rfl) ?_
  refine va_get (D := D) (ci := 1) (v := .ref qm) (C := R_M) (T := T_M) (N := 7) hx hb hts (ui_M _) hown hK hP 0 rfl rfl 6 (by decide) (hts _ (gwc gw_515)) (fun _ h9 => h9) rfl d_M_part_137 ?_
  refine lv_iload hx hb d_M_part_140 (lv_at hl 0 rfl) ?_
  refine lv_iconst (v := 2) hx hb d_M_part_142 (by decide) ?_
  refine lv_iadd hx hb d_M_part_143 ?_
  refine tp_i (2) (by decide) ?_
  refine ld_l hx hb hK hP 4 2 rfl rfl 2 (by omega) (by omega) d_M_part_144 ?_
  refine tp_l (mixL u2 u4 t) (rfl) ?_
  refine lv_lload_n hx hb d_M_part_145 rfl (lv_at hl 3 rfl) ?_
  refine ct_callS (av := [.long (mixL u0 u2 t), .long (mixL u2 u4 t), .long t]) (rest := [.int 0, .ref qm]) (wr := [(hm, .inr (1, [.ref a, .ref b, .ref qa, .ref qu, .ref qb, .ref qh, .ref qm])), (qu, .inl (cJ, 8, .inr (.inl (f8 u0 u1 u2 u3 u4 u5 u6 u7)))), (qb, .inl (cJ, 8, .inr (.inl (f8 u0 u1 (mixL u0 u2 t) (mixL u1 u3 t) v4 v5 v6 v7)))), (qh, .inl (cJ, 8, .inr (.inl (f8 w0 w1 w2 w3 (mixL u4 u6 t) (mixL u5 u7 t) u6 u7)))), (qm, .inl (cJ, 8, .inr (.inl (f8 (mixL u0 u2 t) (mixL u1 u3 t) (mixL u2 u4 t) (mixL u3 u5 t) (mixL u4 u6 t) (mixL u5 u7 t) u6 u7))))]) (n := 3) (c_M_mix l D cI cB cJ qQ  (mixL u0 u2 t) (mixL u2 u4 t) t ) hx hb hml hown hts (amb_ok qQ) hK hP hD hS hA hM (gi_S gw_650 gw_651 gw_33 gw_652) rfl (by decide +kernel) ⟨by omega, by omega⟩ [] [0, 1, 2, 3, 4] rfl rfl rfl rfl (by decide) rfl hl.1 rfl (Nat.le_of_ble_eq_true rfl) d_M_part_146 ⟨by omega, by omega⟩ (fun u_26 H locs hok hP hD hS => ?_)
  have hP : va_P D cl [(hm, .inr (1, [.ref a, .ref b, .ref qa, .ref qu, .ref qb, .ref qh, .ref qm])), (qu, .inl (cJ, 8, .inr (.inl (f8 u0 u1 u2 u3 u4 u5 u6 u7)))), (qb, .inl (cJ, 8, .inr (.inl (f8 u0 u1 (mixL u0 u2 t) (mixL u1 u3 t) v4 v5 v6 v7)))), (qh, .inl (cJ, 8, .inr (.inl (f8 w0 w1 w2 w3 (mixL u4 u6 t) (mixL u5 u7 t) u6 u7)))), (qm, .inl (cJ, 8, .inr (.inl (f8 (mixL u0 u2 t) (mixL u1 u3 t) (mixL u2 u4 t) (mixL u3 u5 t) (mixL u4 u6 t) (mixL u5 u7 t) u6 u7))))] H := hP
  have hD : va_D A [(hm, .inr (1, [.ref a, .ref b, .ref qa, .ref qu, .ref qb, .ref qh, .ref qm])), (qu, .inl (cJ, 8, .inr (.inl (f8 u0 u1 u2 u3 u4 u5 u6 u7)))), (qb, .inl (cJ, 8, .inr (.inl (f8 u0 u1 (mixL u0 u2 t) (mixL u1 u3 t) v4 v5 v6 v7)))), (qh, .inl (cJ, 8, .inr (.inl (f8 w0 w1 w2 w3 (mixL u4 u6 t) (mixL u5 u7 t) u6 u7)))), (qm, .inl (cJ, 8, .inr (.inl (f8 (mixL u0 u2 t) (mixL u1 u3 t) (mixL u2 u4 t) (mixL u3 u5 t) (mixL u4 u6 t) (mixL u5 u7 t) u6 u7))))] := hD
  refine W.eq (g2 := F0 m 149 ls [.long (mixL (mixL u0 u2 t) (mixL u2 u4 t) t), .int 0, .ref qm]) rfl ?_
  refine sf_l (f8 (mixL (mixL u0 u2 t) (mixL u2 u4 t) t) (mixL u1 u3 t) (mixL u2 u4 t) (mixL u3 u5 t) (mixL u4 u6 t) (mixL u5 u7 t) u6 u7) hx hb hK hP hD hS 4 2 rfl rfl 0 f8_0 (by decide) (by decide) d_M_part_149 (fun H locs hP hD hS => ?_)
  have hP : va_P D cl [(hm, .inr (1, [.ref a, .ref b, .ref qa, .ref qu, .ref qb, .ref qh, .ref qm])), (qu, .inl (cJ, 8, .inr (.inl (f8 u0 u1 u2 u3 u4 u5 u6 u7)))), (qb, .inl (cJ, 8, .inr (.inl (f8 u0 u1 (mixL u0 u2 t) (mixL u1 u3 t) v4 v5 v6 v7)))), (qh, .inl (cJ, 8, .inr (.inl (f8 w0 w1 w2 w3 (mixL u4 u6 t) (mixL u5 u7 t) u6 u7)))), (qm, .inl (cJ, 8, .inr (.inl (f8 (mixL (mixL u0 u2 t) (mixL u2 u4 t) t) (mixL u1 u3 t) (mixL u2 u4 t) (mixL u3 u5 t) (mixL u4 u6 t) (mixL u5 u7 t) u6 u7))))] H := hP
  have hD : va_D A [(hm, .inr (1, [.ref a, .ref b, .ref qa, .ref qu, .ref qb, .ref qh, .ref qm])), (qu, .inl (cJ, 8, .inr (.inl (f8 u0 u1 u2 u3 u4 u5 u6 u7)))), (qb, .inl (cJ, 8, .inr (.inl (f8 u0 u1 (mixL u0 u2 t) (mixL u1 u3 t) v4 v5 v6 v7)))), (qh, .inl (cJ, 8, .inr (.inl (f8 w0 w1 w2 w3 (mixL u4 u6 t) (mixL u5 u7 t) u6 u7)))), (qm, .inl (cJ, 8, .inr (.inl (f8 (mixL (mixL u0 u2 t) (mixL u2 u4 t) t) (mixL u1 u3 t) (mixL u2 u4 t) (mixL u3 u5 t) (mixL u4 u6 t) (mixL u5 u7 t) u6 u7))))] := hD
  refine lv_iinc (v := 1) (lv' := [(4, .int 1), (3, .int 1), (0, .ref hm), (1, .long t)]) hx hb d_M_part_150 hl (k := 0) rfl (by first | exact nI_add _ 1 | rfl | decide) (by decide) rfl (fun ls hl => ?_)
  refine lv_goto (tgt := 110) hx hb d_M_part_153 (by decide) ?_
  refine lv_iload hx hb d_M_part_110 (lv_at hl 0 rfl) ?_
  refine lv_iconst (v := 2) hx hb d_M_part_112 (by decide) ?_
  refine lv_iadd hx hb d_M_part_113 ?_
  refine tp_i (3) (by decide) ?_
  refine lv_bipush (v := 8) hx hb d_M_part_114 (by decide) ?_
  refine lv_iconst (v := 2) hx hb d_M_part_116 (by decide) ?_
  refine lv_iload_n hx hb d_M_part_117 rfl (lv_at hl 1 rfl) ?_
  refine lv_imul hx hb d_M_part_118 ?_
  refine tp_i (2) (by decide) ?_
  refine lv_isub hx hb d_M_part_119 ?_
  refine tp_i (6) (by decide) ?_
  refine bn_ge (a1 := 3) (b1 := 6) (tgt := 156) hx hb (by omega) (by omega) d_M_part_120 (by decide) (fun c_27 => ?_) (fun c_27 => ?_)
  · exact absurd c_27 (by decide)
  refine lv_aload_n hx hb d_M_part_123 rfl (lv_at hl 2 rfl) ?_
  refine va_get (D := D) (ci := 1) (v := .ref qm) (C := R_M) (T := T_M) (N := 7) hx hb hts (ui_M _) hown hK hP 0 rfl rfl 6 (by decide) (hts _ (gwc gw_515)) (fun _ h9 => h9) rfl d_M_part_124 ?_
  refine lv_iload hx hb d_M_part_127 (lv_at hl 0 rfl) ?_
  refine lv_aload_n hx hb d_M_part_129 rfl (lv_at hl 2 rfl) ?_
  refine va_get (D := D) (ci := 1) (v := .ref qm) (C := R_M) (T := T_M) (N := 7) hx hb hts (ui_M _) hown hK hP 0 rfl rfl 6 (by decide) (hts _ (gwc gw_515)) (fun _ h9 => h9) rfl d_M_part_130 ?_
  refine lv_iload hx hb d_M_part_133 (lv_at hl 0 rfl) ?_
  refine ld_l hx hb hK hP 4 2 rfl rfl 1 (by omega) (by omega) d_M_part_135 ?_
  refine tp_l (mixL u1 u3 t) (rfl) ?_
  refine lv_aload_n hx hb d_M_part_136 rfl (lv_at hl 2 rfl) ?_
  refine va_get (D := D) (ci := 1) (v := .ref qm) (C := R_M) (T := T_M) (N := 7) hx hb hts (ui_M _) hown hK hP 0 rfl rfl 6 (by decide) (hts _ (gwc gw_515)) (fun _ h9 => h9) rfl d_M_part_137 ?_
  refine lv_iload hx hb d_M_part_140 (lv_at hl 0 rfl) ?_
  refine lv_iconst (v := 2) hx hb d_M_part_142 (by decide) ?_
  refine lv_iadd hx hb d_M_part_143 ?_
  refine tp_i (3) (by decide) ?_
  refine ld_l hx hb hK hP 4 2 rfl rfl 3 (by omega) (by omega) d_M_part_144 ?_
  refine tp_l (mixL u3 u5 t) (rfl) ?_
  refine lv_lload_n hx hb d_M_part_145 rfl (lv_at hl 3 rfl) ?_
  refine ct_callS (av := [.long (mixL u1 u3 t), .long (mixL u3 u5 t), .long t]) (rest := [.int 1, .ref qm]) (wr := [(hm, .inr (1, [.ref a, .ref b, .ref qa, .ref qu, .ref qb, .ref qh, .ref qm])), (qu, .inl (cJ, 8, .inr (.inl (f8 u0 u1 u2 u3 u4 u5 u6 u7)))), (qb, .inl (cJ, 8, .inr (.inl (f8 u0 u1 (mixL u0 u2 t) (mixL u1 u3 t) v4 v5 v6 v7)))), (qh, .inl (cJ, 8, .inr (.inl (f8 w0 w1 w2 w3 (mixL u4 u6 t) (mixL u5 u7 t) u6 u7)))), (qm, .inl (cJ, 8, .inr (.inl (f8 (mixL (mixL u0 u2 t) (mixL u2 u4 t) t) (mixL u1 u3 t) (mixL u2 u4 t) (mixL u3 u5 t) (mixL u4 u6 t) (mixL u5 u7 t) u6 u7))))]) (n := 3) (c_M_mix l D cI cB cJ qQ  (mixL u1 u3 t) (mixL u3 u5 t) t ) hx hb hml hown hts (amb_ok qQ) hK hP hD hS hA hM (gi_S gw_650 gw_651 gw_33 gw_652) rfl (by decide +kernel) ⟨by omega, by omega⟩ [] [0, 1, 2, 3, 4] rfl rfl rfl rfl (by decide) rfl hl.1 rfl (Nat.le_of_ble_eq_true rfl) d_M_part_146 ⟨by omega, by omega⟩ (fun u_28 H locs hok hP hD hS => ?_)
  have hP : va_P D cl [(hm, .inr (1, [.ref a, .ref b, .ref qa, .ref qu, .ref qb, .ref qh, .ref qm])), (qu, .inl (cJ, 8, .inr (.inl (f8 u0 u1 u2 u3 u4 u5 u6 u7)))), (qb, .inl (cJ, 8, .inr (.inl (f8 u0 u1 (mixL u0 u2 t) (mixL u1 u3 t) v4 v5 v6 v7)))), (qh, .inl (cJ, 8, .inr (.inl (f8 w0 w1 w2 w3 (mixL u4 u6 t) (mixL u5 u7 t) u6 u7)))), (qm, .inl (cJ, 8, .inr (.inl (f8 (mixL (mixL u0 u2 t) (mixL u2 u4 t) t) (mixL u1 u3 t) (mixL u2 u4 t) (mixL u3 u5 t) (mixL u4 u6 t) (mixL u5 u7 t) u6 u7))))] H := hP
  have hD : va_D A [(hm, .inr (1, [.ref a, .ref b, .ref qa, .ref qu, .ref qb, .ref qh, .ref qm])), (qu, .inl (cJ, 8, .inr (.inl (f8 u0 u1 u2 u3 u4 u5 u6 u7)))), (qb, .inl (cJ, 8, .inr (.inl (f8 u0 u1 (mixL u0 u2 t) (mixL u1 u3 t) v4 v5 v6 v7)))), (qh, .inl (cJ, 8, .inr (.inl (f8 w0 w1 w2 w3 (mixL u4 u6 t) (mixL u5 u7 t) u6 u7)))), (qm, .inl (cJ, 8, .inr (.inl (f8 (mixL (mixL u0 u2 t) (mixL u2 u4 t) t) (mixL u1 u3 t) (mixL u2 u4 t) (mixL u3 u5 t) (mixL u4 u6 t) (mixL u5 u7 t) u6 u7))))] := hD
  refine W.eq (g2 := F0 m 149 ls [.long (mixL (mixL u1 u3 t) (mixL u3 u5 t) t), .int 1, .ref qm]) rfl ?_
  refine sf_l (f8 (mixL (mixL u0 u2 t) (mixL u2 u4 t) t) (mixL (mixL u1 u3 t) (mixL u3 u5 t) t) (mixL u2 u4 t) (mixL u3 u5 t) (mixL u4 u6 t) (mixL u5 u7 t) u6 u7) hx hb hK hP hD hS 4 2 rfl rfl 1 f8_1 (by decide) (by decide) d_M_part_149 (fun H locs hP hD hS => ?_)
  have hP : va_P D cl [(hm, .inr (1, [.ref a, .ref b, .ref qa, .ref qu, .ref qb, .ref qh, .ref qm])), (qu, .inl (cJ, 8, .inr (.inl (f8 u0 u1 u2 u3 u4 u5 u6 u7)))), (qb, .inl (cJ, 8, .inr (.inl (f8 u0 u1 (mixL u0 u2 t) (mixL u1 u3 t) v4 v5 v6 v7)))), (qh, .inl (cJ, 8, .inr (.inl (f8 w0 w1 w2 w3 (mixL u4 u6 t) (mixL u5 u7 t) u6 u7)))), (qm, .inl (cJ, 8, .inr (.inl (f8 (mixL (mixL u0 u2 t) (mixL u2 u4 t) t) (mixL (mixL u1 u3 t) (mixL u3 u5 t) t) (mixL u2 u4 t) (mixL u3 u5 t) (mixL u4 u6 t) (mixL u5 u7 t) u6 u7))))] H := hP
  have hD : va_D A [(hm, .inr (1, [.ref a, .ref b, .ref qa, .ref qu, .ref qb, .ref qh, .ref qm])), (qu, .inl (cJ, 8, .inr (.inl (f8 u0 u1 u2 u3 u4 u5 u6 u7)))), (qb, .inl (cJ, 8, .inr (.inl (f8 u0 u1 (mixL u0 u2 t) (mixL u1 u3 t) v4 v5 v6 v7)))), (qh, .inl (cJ, 8, .inr (.inl (f8 w0 w1 w2 w3 (mixL u4 u6 t) (mixL u5 u7 t) u6 u7)))), (qm, .inl (cJ, 8, .inr (.inl (f8 (mixL (mixL u0 u2 t) (mixL u2 u4 t) t) (mixL (mixL u1 u3 t) (mixL u3 u5 t) t) (mixL u2 u4 t) (mixL u3 u5 t) (mixL u4 u6 t) (mixL u5 u7 t) u6 u7))))] := hD
  refine lv_iinc (v := 2) (lv' := [(4, .int 2), (3, .int 1), (0, .ref hm), (1, .long t)]) hx hb d_M_part_150 hl (k := 0) rfl (by first | exact nI_add _ 1 | rfl | decide) (by decide) rfl (fun ls hl => ?_)
  refine lv_goto (tgt := 110) hx hb d_M_part_153 (by decide) ?_
  refine lv_iload hx hb d_M_part_110 (lv_at hl 0 rfl) ?_
  refine lv_iconst (v := 2) hx hb d_M_part_112 (by decide) ?_
  refine lv_iadd hx hb d_M_part_113 ?_
  refine tp_i (4) (by decide) ?_
  refine lv_bipush (v := 8) hx hb d_M_part_114 (by decide) ?_
  refine lv_iconst (v := 2) hx hb d_M_part_116 (by decide) ?_
  refine lv_iload_n hx hb d_M_part_117 rfl (lv_at hl 1 rfl) ?_
  refine lv_imul hx hb d_M_part_118 ?_
  refine tp_i (2) (by decide) ?_
  refine lv_isub hx hb d_M_part_119 ?_
  refine tp_i (6) (by decide) ?_
  refine bn_ge (a1 := 4) (b1 := 6) (tgt := 156) hx hb (by omega) (by omega) d_M_part_120 (by decide) (fun c_29 => ?_) (fun c_29 => ?_)
  · exact absurd c_29 (by decide)
  refine lv_aload_n hx hb d_M_part_123 rfl (lv_at hl 2 rfl) ?_
  refine va_get (D := D) (ci := 1) (v := .ref qm) (C := R_M) (T := T_M) (N := 7) hx hb hts (ui_M _) hown hK hP 0 rfl rfl 6 (by decide) (hts _ (gwc gw_515)) (fun _ h9 => h9) rfl d_M_part_124 ?_
  refine lv_iload hx hb d_M_part_127 (lv_at hl 0 rfl) ?_
  refine lv_aload_n hx hb d_M_part_129 rfl (lv_at hl 2 rfl) ?_
  refine va_get (D := D) (ci := 1) (v := .ref qm) (C := R_M) (T := T_M) (N := 7) hx hb hts (ui_M _) hown hK hP 0 rfl rfl 6 (by decide) (hts _ (gwc gw_515)) (fun _ h9 => h9) rfl d_M_part_130 ?_
  refine lv_iload hx hb d_M_part_133 (lv_at hl 0 rfl) ?_
  refine ld_l hx hb hK hP 4 2 rfl rfl 2 (by omega) (by omega) d_M_part_135 ?_
  refine tp_l (mixL u2 u4 t) (rfl) ?_
  refine lv_aload_n hx hb d_M_part_136 rfl (lv_at hl 2 rfl) ?_
  refine va_get (D := D) (ci := 1) (v := .ref qm) (C := R_M) (T := T_M) (N := 7) hx hb hts (ui_M _) hown hK hP 0 rfl rfl 6 (by decide) (hts _ (gwc gw_515)) (fun _ h9 => h9) rfl d_M_part_137 ?_
  refine lv_iload hx hb d_M_part_140 (lv_at hl 0 rfl) ?_
  refine lv_iconst (v := 2) hx hb d_M_part_142 (by decide) ?_
  refine lv_iadd hx hb d_M_part_143 ?_
  refine tp_i (4) (by decide) ?_
  refine ld_l hx hb hK hP 4 2 rfl rfl 4 (by omega) (by omega) d_M_part_144 ?_
  refine tp_l (mixL u4 u6 t) (rfl) ?_
  refine lv_lload_n hx hb d_M_part_145 rfl (lv_at hl 3 rfl) ?_
  refine ct_callS (av := [.long (mixL u2 u4 t), .long (mixL u4 u6 t), .long t]) (rest := [.int 2, .ref qm]) (wr := [(hm, .inr (1, [.ref a, .ref b, .ref qa, .ref qu, .ref qb, .ref qh, .ref qm])), (qu, .inl (cJ, 8, .inr (.inl (f8 u0 u1 u2 u3 u4 u5 u6 u7)))), (qb, .inl (cJ, 8, .inr (.inl (f8 u0 u1 (mixL u0 u2 t) (mixL u1 u3 t) v4 v5 v6 v7)))), (qh, .inl (cJ, 8, .inr (.inl (f8 w0 w1 w2 w3 (mixL u4 u6 t) (mixL u5 u7 t) u6 u7)))), (qm, .inl (cJ, 8, .inr (.inl (f8 (mixL (mixL u0 u2 t) (mixL u2 u4 t) t) (mixL (mixL u1 u3 t) (mixL u3 u5 t) t) (mixL u2 u4 t) (mixL u3 u5 t) (mixL u4 u6 t) (mixL u5 u7 t) u6 u7))))]) (n := 3) (c_M_mix l D cI cB cJ qQ  (mixL u2 u4 t) (mixL u4 u6 t) t ) hx hb hml hown hts (amb_ok qQ) hK hP hD hS hA hM (gi_S gw_650 gw_651 gw_33 gw_652) rfl (by decide +kernel) ⟨by omega, by omega⟩ [] [0, 1, 2, 3, 4] rfl rfl rfl rfl (by decide) rfl hl.1 rfl (Nat.le_of_ble_eq_true rfl) d_M_part_146 ⟨by omega, by omega⟩ (fun u_30 H locs hok hP hD hS => ?_)
  have hP : va_P D cl [(hm, .inr (1, [.ref a, .ref b, .ref qa, .ref qu, .ref qb, .ref qh, .ref qm])), (qu, .inl (cJ, 8, .inr (.inl (f8 u0 u1 u2 u3 u4 u5 u6 u7)))), (qb, .inl (cJ, 8, .inr (.inl (f8 u0 u1 (mixL u0 u2 t) (mixL u1 u3 t) v4 v5 v6 v7)))), (qh, .inl (cJ, 8, .inr (.inl (f8 w0 w1 w2 w3 (mixL u4 u6 t) (mixL u5 u7 t) u6 u7)))), (qm, .inl (cJ, 8, .inr (.inl (f8 (mixL (mixL u0 u2 t) (mixL u2 u4 t) t) (mixL (mixL u1 u3 t) (mixL u3 u5 t) t) (mixL u2 u4 t) (mixL u3 u5 t) (mixL u4 u6 t) (mixL u5 u7 t) u6 u7))))] H := hP
  have hD : va_D A [(hm, .inr (1, [.ref a, .ref b, .ref qa, .ref qu, .ref qb, .ref qh, .ref qm])), (qu, .inl (cJ, 8, .inr (.inl (f8 u0 u1 u2 u3 u4 u5 u6 u7)))), (qb, .inl (cJ, 8, .inr (.inl (f8 u0 u1 (mixL u0 u2 t) (mixL u1 u3 t) v4 v5 v6 v7)))), (qh, .inl (cJ, 8, .inr (.inl (f8 w0 w1 w2 w3 (mixL u4 u6 t) (mixL u5 u7 t) u6 u7)))), (qm, .inl (cJ, 8, .inr (.inl (f8 (mixL (mixL u0 u2 t) (mixL u2 u4 t) t) (mixL (mixL u1 u3 t) (mixL u3 u5 t) t) (mixL u2 u4 t) (mixL u3 u5 t) (mixL u4 u6 t) (mixL u5 u7 t) u6 u7))))] := hD
  refine W.eq (g2 := F0 m 149 ls [.long (mixL (mixL u2 u4 t) (mixL u4 u6 t) t), .int 2, .ref qm]) rfl ?_
  refine sf_l (f8 (mixL (mixL u0 u2 t) (mixL u2 u4 t) t) (mixL (mixL u1 u3 t) (mixL u3 u5 t) t) (mixL (mixL u2 u4 t) (mixL u4 u6 t) t) (mixL u3 u5 t) (mixL u4 u6 t) (mixL u5 u7 t) u6 u7) hx hb hK hP hD hS 4 2 rfl rfl 2 f8_2 (by decide) (by decide) d_M_part_149 (fun H locs hP hD hS => ?_)
  have hP : va_P D cl [(hm, .inr (1, [.ref a, .ref b, .ref qa, .ref qu, .ref qb, .ref qh, .ref qm])), (qu, .inl (cJ, 8, .inr (.inl (f8 u0 u1 u2 u3 u4 u5 u6 u7)))), (qb, .inl (cJ, 8, .inr (.inl (f8 u0 u1 (mixL u0 u2 t) (mixL u1 u3 t) v4 v5 v6 v7)))), (qh, .inl (cJ, 8, .inr (.inl (f8 w0 w1 w2 w3 (mixL u4 u6 t) (mixL u5 u7 t) u6 u7)))), (qm, .inl (cJ, 8, .inr (.inl (f8 (mixL (mixL u0 u2 t) (mixL u2 u4 t) t) (mixL (mixL u1 u3 t) (mixL u3 u5 t) t) (mixL (mixL u2 u4 t) (mixL u4 u6 t) t) (mixL u3 u5 t) (mixL u4 u6 t) (mixL u5 u7 t) u6 u7))))] H := hP
  have hD : va_D A [(hm, .inr (1, [.ref a, .ref b, .ref qa, .ref qu, .ref qb, .ref qh, .ref qm])), (qu, .inl (cJ, 8, .inr (.inl (f8 u0 u1 u2 u3 u4 u5 u6 u7)))), (qb, .inl (cJ, 8, .inr (.inl (f8 u0 u1 (mixL u0 u2 t) (mixL u1 u3 t) v4 v5 v6 v7)))), (qh, .inl (cJ, 8, .inr (.inl (f8 w0 w1 w2 w3 (mixL u4 u6 t) (mixL u5 u7 t) u6 u7)))), (qm, .inl (cJ, 8, .inr (.inl (f8 (mixL (mixL u0 u2 t) (mixL u2 u4 t) t) (mixL (mixL u1 u3 t) (mixL u3 u5 t) t) (mixL (mixL u2 u4 t) (mixL u4 u6 t) t) (mixL u3 u5 t) (mixL u4 u6 t) (mixL u5 u7 t) u6 u7))))] := hD
  refine lv_iinc (v := 3) (lv' := [(4, .int 3), (3, .int 1), (0, .ref hm), (1, .long t)]) hx hb d_M_part_150 hl (k := 0) rfl (by first | exact nI_add _ 1 | rfl | decide) (by decide) rfl (fun ls hl => ?_)
  refine lv_goto (tgt := 110) hx hb d_M_part_153 (by decide) ?_
  refine lv_iload hx hb d_M_part_110 (lv_at hl 0 rfl) ?_
  refine lv_iconst (v := 2) hx hb d_M_part_112 (by decide) ?_
  refine lv_iadd hx hb d_M_part_113 ?_
  refine tp_i (5) (by decide) ?_
  refine lv_bipush (v := 8) hx hb d_M_part_114 (by decide) ?_
  refine lv_iconst (v := 2) hx hb d_M_part_116 (by decide) ?_
  refine lv_iload_n hx hb d_M_part_117 rfl (lv_at hl 1 rfl) ?_
  refine lv_imul hx hb d_M_part_118 ?_
  refine tp_i (2) (by decide) ?_
  refine lv_isub hx hb d_M_part_119 ?_
  refine tp_i (6) (by decide) ?_
  refine bn_ge (a1 := 5) (b1 := 6) (tgt := 156) hx hb (by omega) (by omega) d_M_part_120 (by decide) (fun c_31 => ?_) (fun c_31 => ?_)
  · exact absurd c_31 (by decide)
  refine lv_aload_n hx hb d_M_part_123 rfl (lv_at hl 2 rfl) ?_
  refine va_get (D := D) (ci := 1) (v := .ref qm) (C := R_M) (T := T_M) (N := 7) hx hb hts (ui_M _) hown hK hP 0 rfl rfl 6 (by decide) (hts _ (gwc gw_515)) (fun _ h9 => h9) rfl d_M_part_124 ?_
  refine lv_iload hx hb d_M_part_127 (lv_at hl 0 rfl) ?_
  refine lv_aload_n hx hb d_M_part_129 rfl (lv_at hl 2 rfl) ?_
  refine va_get (D := D) (ci := 1) (v := .ref qm) (C := R_M) (T := T_M) (N := 7) hx hb hts (ui_M _) hown hK hP 0 rfl rfl 6 (by decide) (hts _ (gwc gw_515)) (fun _ h9 => h9) rfl d_M_part_130 ?_
  refine lv_iload hx hb d_M_part_133 (lv_at hl 0 rfl) ?_
  refine ld_l hx hb hK hP 4 2 rfl rfl 3 (by omega) (by omega) d_M_part_135 ?_
  refine tp_l (mixL u3 u5 t) (rfl) ?_
  refine lv_aload_n hx hb d_M_part_136 rfl (lv_at hl 2 rfl) ?_
  refine va_get (D := D) (ci := 1) (v := .ref qm) (C := R_M) (T := T_M) (N := 7) hx hb hts (ui_M _) hown hK hP 0 rfl rfl 6 (by decide) (hts _ (gwc gw_515)) (fun _ h9 => h9) rfl d_M_part_137 ?_
  refine lv_iload hx hb d_M_part_140 (lv_at hl 0 rfl) ?_
  refine lv_iconst (v := 2) hx hb d_M_part_142 (by decide) ?_
  refine lv_iadd hx hb d_M_part_143 ?_
  refine tp_i (5) (by decide) ?_
  refine ld_l hx hb hK hP 4 2 rfl rfl 5 (by omega) (by omega) d_M_part_144 ?_
  refine tp_l (mixL u5 u7 t) (rfl) ?_
  refine lv_lload_n hx hb d_M_part_145 rfl (lv_at hl 3 rfl) ?_
  refine ct_callS (av := [.long (mixL u3 u5 t), .long (mixL u5 u7 t), .long t]) (rest := [.int 3, .ref qm]) (wr := [(hm, .inr (1, [.ref a, .ref b, .ref qa, .ref qu, .ref qb, .ref qh, .ref qm])), (qu, .inl (cJ, 8, .inr (.inl (f8 u0 u1 u2 u3 u4 u5 u6 u7)))), (qb, .inl (cJ, 8, .inr (.inl (f8 u0 u1 (mixL u0 u2 t) (mixL u1 u3 t) v4 v5 v6 v7)))), (qh, .inl (cJ, 8, .inr (.inl (f8 w0 w1 w2 w3 (mixL u4 u6 t) (mixL u5 u7 t) u6 u7)))), (qm, .inl (cJ, 8, .inr (.inl (f8 (mixL (mixL u0 u2 t) (mixL u2 u4 t) t) (mixL (mixL u1 u3 t) (mixL u3 u5 t) t) (mixL (mixL u2 u4 t) (mixL u4 u6 t) t) (mixL u3 u5 t) (mixL u4 u6 t) (mixL u5 u7 t) u6 u7))))]) (n := 3) (c_M_mix l D cI cB cJ qQ  (mixL u3 u5 t) (mixL u5 u7 t) t ) hx hb hml hown hts (amb_ok qQ) hK hP hD hS hA hM (gi_S gw_650 gw_651 gw_33 gw_652) rfl (by decide +kernel) ⟨by omega, by omega⟩ [] [0, 1, 2, 3, 4] rfl rfl rfl rfl (by decide) rfl hl.1 rfl (Nat.le_of_ble_eq_true rfl) d_M_part_146 ⟨by omega, by omega⟩ (fun u_32 H locs hok hP hD hS => ?_)
  have hP : va_P D cl [(hm, .inr (1, [.ref a, .ref b, .ref qa, .ref qu, .ref qb, .ref qh, .ref qm])), (qu, .inl (cJ, 8, .inr (.inl (f8 u0 u1 u2 u3 u4 u5 u6 u7)))), (qb, .inl (cJ, 8, .inr (.inl (f8 u0 u1 (mixL u0 u2 t) (mixL u1 u3 t) v4 v5 v6 v7)))), (qh, .inl (cJ, 8, .inr (.inl (f8 w0 w1 w2 w3 (mixL u4 u6 t) (mixL u5 u7 t) u6 u7)))), (qm, .inl (cJ, 8, .inr (.inl (f8 (mixL (mixL u0 u2 t) (mixL u2 u4 t) t) (mixL (mixL u1 u3 t) (mixL u3 u5 t) t) (mixL (mixL u2 u4 t) (mixL u4 u6 t) t) (mixL u3 u5 t) (mixL u4 u6 t) (mixL u5 u7 t) u6 u7))))] H := hP
  have hD : va_D A [(hm, .inr (1, [.ref a, .ref b, .ref qa, .ref qu, .ref qb, .ref qh, .ref qm])), (qu, .inl (cJ, 8, .inr (.inl (f8 u0 u1 u2 u3 u4 u5 u6 u7)))), (qb, .inl (cJ, 8, .inr (.inl (f8 u0 u1 (mixL u0 u2 t) (mixL u1 u3 t) v4 v5 v6 v7)))), (qh, .inl (cJ, 8, .inr (.inl (f8 w0 w1 w2 w3 (mixL u4 u6 t) (mixL u5 u7 t) u6 u7)))), (qm, .inl (cJ, 8, .inr (.inl (f8 (mixL (mixL u0 u2 t) (mixL u2 u4 t) t) (mixL (mixL u1 u3 t) (mixL u3 u5 t) t) (mixL (mixL u2 u4 t) (mixL u4 u6 t) t) (mixL u3 u5 t) (mixL u4 u6 t) (mixL u5 u7 t) u6 u7))))] := hD
  refine W.eq (g2 := F0 m 149 ls [.long (mixL (mixL u3 u5 t) (mixL u5 u7 t) t), .int 3, .ref qm]) rfl ?_
  refine sf_l (f8 (mixL (mixL u0 u2 t) (mixL u2 u4 t) t) (mixL (mixL u1 u3 t) (mixL u3 u5 t) t) (mixL (mixL u2 u4 t) (mixL u4 u6 t) t) (mixL (mixL u3 u5 t) (mixL u5 u7 t) t) (mixL u4 u6 t) (mixL u5 u7 t) u6 u7) hx hb hK hP hD hS 4 2 rfl rfl 3 f8_3 (by decide) (by decide) d_M_part_149 (fun H locs hP hD hS => ?_)
  have hP : va_P D cl [(hm, .inr (1, [.ref a, .ref b, .ref qa, .ref qu, .ref qb, .ref qh, .ref qm])), (qu, .inl (cJ, 8, .inr (.inl (f8 u0 u1 u2 u3 u4 u5 u6 u7)))), (qb, .inl (cJ, 8, .inr (.inl (f8 u0 u1 (mixL u0 u2 t) (mixL u1 u3 t) v4 v5 v6 v7)))), (qh, .inl (cJ, 8, .inr (.inl (f8 w0 w1 w2 w3 (mixL u4 u6 t) (mixL u5 u7 t) u6 u7)))), (qm, .inl (cJ, 8, .inr (.inl (f8 (mixL (mixL u0 u2 t) (mixL u2 u4 t) t) (mixL (mixL u1 u3 t) (mixL u3 u5 t) t) (mixL (mixL u2 u4 t) (mixL u4 u6 t) t) (mixL (mixL u3 u5 t) (mixL u5 u7 t) t) (mixL u4 u6 t) (mixL u5 u7 t) u6 u7))))] H := hP
  have hD : va_D A [(hm, .inr (1, [.ref a, .ref b, .ref qa, .ref qu, .ref qb, .ref qh, .ref qm])), (qu, .inl (cJ, 8, .inr (.inl (f8 u0 u1 u2 u3 u4 u5 u6 u7)))), (qb, .inl (cJ, 8, .inr (.inl (f8 u0 u1 (mixL u0 u2 t) (mixL u1 u3 t) v4 v5 v6 v7)))), (qh, .inl (cJ, 8, .inr (.inl (f8 w0 w1 w2 w3 (mixL u4 u6 t) (mixL u5 u7 t) u6 u7)))), (qm, .inl (cJ, 8, .inr (.inl (f8 (mixL (mixL u0 u2 t) (mixL u2 u4 t) t) (mixL (mixL u1 u3 t) (mixL u3 u5 t) t) (mixL (mixL u2 u4 t) (mixL u4 u6 t) t) (mixL (mixL u3 u5 t) (mixL u5 u7 t) t) (mixL u4 u6 t) (mixL u5 u7 t) u6 u7))))] := hD
  refine lv_iinc (v := 4) (lv' := [(4, .int 4), (3, .int 1), (0, .ref hm), (1, .long t)]) hx hb d_M_part_150 hl (k := 0) rfl (by first | exact nI_add _ 1 | rfl | decide) (by decide) rfl (fun ls hl => ?_)
  refine lv_goto (tgt := 110) hx hb d_M_part_153 (by decide) ?_
  refine lv_iload hx hb d_M_part_110 (lv_at hl 0 rfl) ?_
  refine lv_iconst (v := 2) hx hb d_M_part_112 (by decide) ?_
  refine lv_iadd hx hb d_M_part_113 ?_
  refine tp_i (6) (by decide) ?_
  refine lv_bipush (v := 8) hx hb d_M_part_114 (by decide) ?_
  refine lv_iconst (v := 2) hx hb d_M_part_116 (by decide) ?_
  refine lv_iload_n hx hb d_M_part_117 rfl (lv_at hl 1 rfl) ?_
  refine lv_imul hx hb d_M_part_118 ?_
  refine tp_i (2) (by decide) ?_
  refine lv_isub hx hb d_M_part_119 ?_
  refine tp_i (6) (by decide) ?_
  refine bn_ge (a1 := 6) (b1 := 6) (tgt := 156) hx hb (by omega) (by omega) d_M_part_120 (by decide) (fun c_33 => ?_) (fun c_33 => ?_)
  rotate_left
  · exact absurd c_33 (by decide)
  refine lv_iinc (v := 2) (lv' := [(3, .int 2), (4, .int 4), (0, .ref hm), (1, .long t)]) hx hb d_M_part_156 hl (k := 1) rfl (by first | exact nI_add _ 1 | rfl | decide) (by decide) rfl (fun ls hl => ?_)
  refine lv_goto (tgt := 28) hx hb d_M_part_159 (by decide) ?_
  refine lv_iload_n hx hb d_M_part_28 rfl (lv_at hl 0 rfl) ?_
  refine lv_iconst (v := 4) hx hb d_M_part_29 (by decide) ?_
  refine bn_ge (a1 := 2) (b1 := 4) (tgt := 162) hx hb (by omega) (by omega) d_M_part_30 (by decide) (fun c_34 => ?_) (fun c_34 => ?_)
  · exact absurd c_34 (by decide)
  refine lv_aload_n hx hb d_M_part_33 rfl (lv_at hl 2 rfl) ?_
  refine va_get (D := D) (ci := 1) (v := .ref qb) (C := R_M) (T := T_M) (N := 7) hx hb hts (ui_M _) hown hK hP 0 rfl rfl 4 (by decide) (hts _ (gwc gw_513)) (fun _ h9 => h9) rfl d_M_part_34 ?_
  refine lv_iconst (v := 2) hx hb d_M_part_37 (by decide) ?_
  refine lv_iload_n hx hb d_M_part_38 rfl (lv_at hl 0 rfl) ?_
  refine lv_imul hx hb d_M_part_39 ?_
  refine tp_i (4) (by decide) ?_
  refine lv_aload_n hx hb d_M_part_40 rfl (lv_at hl 2 rfl) ?_
  refine va_get (D := D) (ci := 1) (v := .ref qm) (C := R_M) (T := T_M) (N := 7) hx hb hts (ui_M _) hown hK hP 0 rfl rfl 6 (by decide) (hts _ (gwc gw_515)) (fun _ h9 => h9) rfl d_M_part_41 ?_
  refine lv_iconst (v := 0) hx hb d_M_part_44 (by decide) ?_
  refine ld_l hx hb hK hP 4 2 rfl rfl 0 (by omega) (by omega) d_M_part_45 ?_
  refine tp_l (mixL (mixL u0 u2 t) (mixL u2 u4 t) t) (rfl) ?_
  refine sf_l (f8 u0 u1 (mixL u0 u2 t) (mixL u1 u3 t) (mixL (mixL u0 u2 t) (mixL u2 u4 t) t) v5 v6 v7) hx hb hK hP hD hS 2 2 rfl rfl 4 f8_4 (by decide) (by decide) d_M_part_46 (fun H locs hP hD hS => ?_)
  have hP : va_P D cl [(hm, .inr (1, [.ref a, .ref b, .ref qa, .ref qu, .ref qb, .ref qh, .ref qm])), (qu, .inl (cJ, 8, .inr (.inl (f8 u0 u1 u2 u3 u4 u5 u6 u7)))), (qb, .inl (cJ, 8, .inr (.inl (f8 u0 u1 (mixL u0 u2 t) (mixL u1 u3 t) (mixL (mixL u0 u2 t) (mixL u2 u4 t) t) v5 v6 v7)))), (qh, .inl (cJ, 8, .inr (.inl (f8 w0 w1 w2 w3 (mixL u4 u6 t) (mixL u5 u7 t) u6 u7)))), (qm, .inl (cJ, 8, .inr (.inl (f8 (mixL (mixL u0 u2 t) (mixL u2 u4 t) t) (mixL (mixL u1 u3 t) (mixL u3 u5 t) t) (mixL (mixL u2 u4 t) (mixL u4 u6 t) t) (mixL (mixL u3 u5 t) (mixL u5 u7 t) t) (mixL u4 u6 t) (mixL u5 u7 t) u6 u7))))] H := hP
  have hD : va_D A [(hm, .inr (1, [.ref a, .ref b, .ref qa, .ref qu, .ref qb, .ref qh, .ref qm])), (qu, .inl (cJ, 8, .inr (.inl (f8 u0 u1 u2 u3 u4 u5 u6 u7)))), (qb, .inl (cJ, 8, .inr (.inl (f8 u0 u1 (mixL u0 u2 t) (mixL u1 u3 t) (mixL (mixL u0 u2 t) (mixL u2 u4 t) t) v5 v6 v7)))), (qh, .inl (cJ, 8, .inr (.inl (f8 w0 w1 w2 w3 (mixL u4 u6 t) (mixL u5 u7 t) u6 u7)))), (qm, .inl (cJ, 8, .inr (.inl (f8 (mixL (mixL u0 u2 t) (mixL u2 u4 t) t) (mixL (mixL u1 u3 t) (mixL u3 u5 t) t) (mixL (mixL u2 u4 t) (mixL u4 u6 t) t) (mixL (mixL u3 u5 t) (mixL u5 u7 t) t) (mixL u4 u6 t) (mixL u5 u7 t) u6 u7))))] := hD
  refine lv_aload_n hx hb d_M_part_47 rfl (lv_at hl 2 rfl) ?_
  refine va_get (D := D) (ci := 1) (v := .ref qb) (C := R_M) (T := T_M) (N := 7) hx hb hts (ui_M _) hown hK hP 0 rfl rfl 4 (by decide) (hts _ (gwc gw_513)) (fun _ h9 => h9) rfl d_M_part_48 ?_
  refine lv_iconst (v := 2) hx hb d_M_part_51 (by decide) ?_
  refine lv_iload_n hx hb d_M_part_52 rfl (lv_at hl 0 rfl) ?_
  refine lv_imul hx hb d_M_part_53 ?_
  refine tp_i (4) (by decide) ?_
  refine lv_iconst (v := 1) hx hb d_M_part_54 (by decide) ?_
  refine lv_iadd hx hb d_M_part_55 ?_
  refine tp_i (5) (by decide) ?_
  refine lv_aload_n hx hb d_M_part_56 rfl (lv_at hl 2 rfl) ?_
  refine va_get (D := D) (ci := 1) (v := .ref qm) (C := R_M) (T := T_M) (N := 7) hx hb hts (ui_M _) hown hK hP 0 rfl rfl 6 (by decide) (hts _ (gwc gw_515)) (fun _ h9 => h9) rfl d_M_part_57 ?_
  refine lv_iconst (v := 1) hx hb d_M_part_60 (by decide) ?_
  refine ld_l hx hb hK hP 4 2 rfl rfl 1 (by omega) (by omega) d_M_part_61 ?_
  refine tp_l (mixL (mixL u1 u3 t) (mixL u3 u5 t) t) (rfl) ?_
  refine sf_l (f8 u0 u1 (mixL u0 u2 t) (mixL u1 u3 t) (mixL (mixL u0 u2 t) (mixL u2 u4 t) t) (mixL (mixL u1 u3 t) (mixL u3 u5 t) t) v6 v7) hx hb hK hP hD hS 2 2 rfl rfl 5 f8_5 (by decide) (by decide) d_M_part_62 (fun H locs hP hD hS => ?_)
  have hP : va_P D cl [(hm, .inr (1, [.ref a, .ref b, .ref qa, .ref qu, .ref qb, .ref qh, .ref qm])), (qu, .inl (cJ, 8, .inr (.inl (f8 u0 u1 u2 u3 u4 u5 u6 u7)))), (qb, .inl (cJ, 8, .inr (.inl (f8 u0 u1 (mixL u0 u2 t) (mixL u1 u3 t) (mixL (mixL u0 u2 t) (mixL u2 u4 t) t) (mixL (mixL u1 u3 t) (mixL u3 u5 t) t) v6 v7)))), (qh, .inl (cJ, 8, .inr (.inl (f8 w0 w1 w2 w3 (mixL u4 u6 t) (mixL u5 u7 t) u6 u7)))), (qm, .inl (cJ, 8, .inr (.inl (f8 (mixL (mixL u0 u2 t) (mixL u2 u4 t) t) (mixL (mixL u1 u3 t) (mixL u3 u5 t) t) (mixL (mixL u2 u4 t) (mixL u4 u6 t) t) (mixL (mixL u3 u5 t) (mixL u5 u7 t) t) (mixL u4 u6 t) (mixL u5 u7 t) u6 u7))))] H := hP
  have hD : va_D A [(hm, .inr (1, [.ref a, .ref b, .ref qa, .ref qu, .ref qb, .ref qh, .ref qm])), (qu, .inl (cJ, 8, .inr (.inl (f8 u0 u1 u2 u3 u4 u5 u6 u7)))), (qb, .inl (cJ, 8, .inr (.inl (f8 u0 u1 (mixL u0 u2 t) (mixL u1 u3 t) (mixL (mixL u0 u2 t) (mixL u2 u4 t) t) (mixL (mixL u1 u3 t) (mixL u3 u5 t) t) v6 v7)))), (qh, .inl (cJ, 8, .inr (.inl (f8 w0 w1 w2 w3 (mixL u4 u6 t) (mixL u5 u7 t) u6 u7)))), (qm, .inl (cJ, 8, .inr (.inl (f8 (mixL (mixL u0 u2 t) (mixL u2 u4 t) t) (mixL (mixL u1 u3 t) (mixL u3 u5 t) t) (mixL (mixL u2 u4 t) (mixL u4 u6 t) t) (mixL (mixL u3 u5 t) (mixL u5 u7 t) t) (mixL u4 u6 t) (mixL u5 u7 t) u6 u7))))] := hD
  refine lv_aload_n hx hb d_M_part_63 rfl (lv_at hl 2 rfl) ?_
  refine va_get (D := D) (ci := 1) (v := .ref qh) (C := R_M) (T := T_M) (N := 7) hx hb hts (ui_M _) hown hK hP 0 rfl rfl 5 (by decide) (hts _ (gwc gw_514)) (fun _ h9 => h9) rfl d_M_part_64 ?_
  refine lv_bipush (v := 6) hx hb d_M_part_67 (by decide) ?_
  refine lv_iconst (v := 2) hx hb d_M_part_69 (by decide) ?_
  refine lv_iload_n hx hb d_M_part_70 rfl (lv_at hl 0 rfl) ?_
  refine lv_imul hx hb d_M_part_71 ?_
  refine tp_i (4) (by decide) ?_
  refine lv_isub hx hb d_M_part_72 ?_
  refine tp_i (2) (by decide) ?_
  refine lv_aload_n hx hb d_M_part_73 rfl (lv_at hl 2 rfl) ?_
  refine va_get (D := D) (ci := 1) (v := .ref qm) (C := R_M) (T := T_M) (N := 7) hx hb hts (ui_M _) hown hK hP 0 rfl rfl 6 (by decide) (hts _ (gwc gw_515)) (fun _ h9 => h9) rfl d_M_part_74 ?_
  refine lv_bipush (v := 6) hx hb d_M_part_77 (by decide) ?_
  refine lv_iconst (v := 2) hx hb d_M_part_79 (by decide) ?_
  refine lv_iload_n hx hb d_M_part_80 rfl (lv_at hl 0 rfl) ?_
  refine lv_imul hx hb d_M_part_81 ?_
  refine tp_i (4) (by decide) ?_
  refine lv_isub hx hb d_M_part_82 ?_
  refine tp_i (2) (by decide) ?_
  refine ld_l hx hb hK hP 4 2 rfl rfl 2 (by omega) (by omega) d_M_part_83 ?_
  refine tp_l (mixL (mixL u2 u4 t) (mixL u4 u6 t) t) (rfl) ?_
  refine sf_l (f8 w0 w1 (mixL (mixL u2 u4 t) (mixL u4 u6 t) t) w3 (mixL u4 u6 t) (mixL u5 u7 t) u6 u7) hx hb hK hP hD hS 3 2 rfl rfl 2 f8_2 (by decide) (by decide) d_M_part_84 (fun H locs hP hD hS => ?_)
  have hP : va_P D cl [(hm, .inr (1, [.ref a, .ref b, .ref qa, .ref qu, .ref qb, .ref qh, .ref qm])), (qu, .inl (cJ, 8, .inr (.inl (f8 u0 u1 u2 u3 u4 u5 u6 u7)))), (qb, .inl (cJ, 8, .inr (.inl (f8 u0 u1 (mixL u0 u2 t) (mixL u1 u3 t) (mixL (mixL u0 u2 t) (mixL u2 u4 t) t) (mixL (mixL u1 u3 t) (mixL u3 u5 t) t) v6 v7)))), (qh, .inl (cJ, 8, .inr (.inl (f8 w0 w1 (mixL (mixL u2 u4 t) (mixL u4 u6 t) t) w3 (mixL u4 u6 t) (mixL u5 u7 t) u6 u7)))), (qm, .inl (cJ, 8, .inr (.inl (f8 (mixL (mixL u0 u2 t) (mixL u2 u4 t) t) (mixL (mixL u1 u3 t) (mixL u3 u5 t) t) (mixL (mixL u2 u4 t) (mixL u4 u6 t) t) (mixL (mixL u3 u5 t) (mixL u5 u7 t) t) (mixL u4 u6 t) (mixL u5 u7 t) u6 u7))))] H := hP
  have hD : va_D A [(hm, .inr (1, [.ref a, .ref b, .ref qa, .ref qu, .ref qb, .ref qh, .ref qm])), (qu, .inl (cJ, 8, .inr (.inl (f8 u0 u1 u2 u3 u4 u5 u6 u7)))), (qb, .inl (cJ, 8, .inr (.inl (f8 u0 u1 (mixL u0 u2 t) (mixL u1 u3 t) (mixL (mixL u0 u2 t) (mixL u2 u4 t) t) (mixL (mixL u1 u3 t) (mixL u3 u5 t) t) v6 v7)))), (qh, .inl (cJ, 8, .inr (.inl (f8 w0 w1 (mixL (mixL u2 u4 t) (mixL u4 u6 t) t) w3 (mixL u4 u6 t) (mixL u5 u7 t) u6 u7)))), (qm, .inl (cJ, 8, .inr (.inl (f8 (mixL (mixL u0 u2 t) (mixL u2 u4 t) t) (mixL (mixL u1 u3 t) (mixL u3 u5 t) t) (mixL (mixL u2 u4 t) (mixL u4 u6 t) t) (mixL (mixL u3 u5 t) (mixL u5 u7 t) t) (mixL u4 u6 t) (mixL u5 u7 t) u6 u7))))] := hD
  refine lv_aload_n hx hb d_M_part_85 rfl (lv_at hl 2 rfl) ?_
  refine va_get (D := D) (ci := 1) (v := .ref qh) (C := R_M) (T := T_M) (N := 7) hx hb hts (ui_M _) hown hK hP 0 rfl rfl 5 (by decide) (hts _ (gwc gw_514)) (fun _ h9 => h9) rfl d_M_part_86 ?_
  refine lv_bipush (v := 7) hx hb d_M_part_89 (by decide) ?_
  refine lv_iconst (v := 2) hx hb d_M_part_91 (by decide) ?_
  refine lv_iload_n hx hb d_M_part_92 rfl (lv_at hl 0 rfl) ?_
  refine lv_imul hx hb d_M_part_93 ?_
  refine tp_i (4) (by decide) ?_
  refine lv_isub hx hb d_M_part_94 ?_
  refine tp_i (3) (by decide) ?_
  refine lv_aload_n hx hb d_M_part_95 rfl (lv_at hl 2 rfl) ?_
  refine va_get (D := D) (ci := 1) (v := .ref qm) (C := R_M) (T := T_M) (N := 7) hx hb hts (ui_M _) hown hK hP 0 rfl rfl 6 (by decide) (hts _ (gwc gw_515)) (fun _ h9 => h9) rfl d_M_part_96 ?_
  refine lv_bipush (v := 7) hx hb d_M_part_99 (by decide) ?_
  refine lv_iconst (v := 2) hx hb d_M_part_101 (by decide) ?_
  refine lv_iload_n hx hb d_M_part_102 rfl (lv_at hl 0 rfl) ?_
  refine lv_imul hx hb d_M_part_103 ?_
  refine tp_i (4) (by decide) ?_
  refine lv_isub hx hb d_M_part_104 ?_
  refine tp_i (3) (by decide) ?_
  refine ld_l hx hb hK hP 4 2 rfl rfl 3 (by omega) (by omega) d_M_part_105 ?_
  refine tp_l (mixL (mixL u3 u5 t) (mixL u5 u7 t) t) (rfl) ?_
  refine sf_l (f8 w0 w1 (mixL (mixL u2 u4 t) (mixL u4 u6 t) t) (mixL (mixL u3 u5 t) (mixL u5 u7 t) t) (mixL u4 u6 t) (mixL u5 u7 t) u6 u7) hx hb hK hP hD hS 3 2 rfl rfl 3 f8_3 (by decide) (by decide) d_M_part_106 (fun H locs hP hD hS => ?_)
  have hP : va_P D cl [(hm, .inr (1, [.ref a, .ref b, .ref qa, .ref qu, .ref qb, .ref qh, .ref qm])), (qu, .inl (cJ, 8, .inr (.inl (f8 u0 u1 u2 u3 u4 u5 u6 u7)))), (qb, .inl (cJ, 8, .inr (.inl (f8 u0 u1 (mixL u0 u2 t) (mixL u1 u3 t) (mixL (mixL u0 u2 t) (mixL u2 u4 t) t) (mixL (mixL u1 u3 t) (mixL u3 u5 t) t) v6 v7)))), (qh, .inl (cJ, 8, .inr (.inl (f8 w0 w1 (mixL (mixL u2 u4 t) (mixL u4 u6 t) t) (mixL (mixL u3 u5 t) (mixL u5 u7 t) t) (mixL u4 u6 t) (mixL u5 u7 t) u6 u7)))), (qm, .inl (cJ, 8, .inr (.inl (f8 (mixL (mixL u0 u2 t) (mixL u2 u4 t) t) (mixL (mixL u1 u3 t) (mixL u3 u5 t) t) (mixL (mixL u2 u4 t) (mixL u4 u6 t) t) (mixL (mixL u3 u5 t) (mixL u5 u7 t) t) (mixL u4 u6 t) (mixL u5 u7 t) u6 u7))))] H := hP
  have hD : va_D A [(hm, .inr (1, [.ref a, .ref b, .ref qa, .ref qu, .ref qb, .ref qh, .ref qm])), (qu, .inl (cJ, 8, .inr (.inl (f8 u0 u1 u2 u3 u4 u5 u6 u7)))), (qb, .inl (cJ, 8, .inr (.inl (f8 u0 u1 (mixL u0 u2 t) (mixL u1 u3 t) (mixL (mixL u0 u2 t) (mixL u2 u4 t) t) (mixL (mixL u1 u3 t) (mixL u3 u5 t) t) v6 v7)))), (qh, .inl (cJ, 8, .inr (.inl (f8 w0 w1 (mixL (mixL u2 u4 t) (mixL u4 u6 t) t) (mixL (mixL u3 u5 t) (mixL u5 u7 t) t) (mixL u4 u6 t) (mixL u5 u7 t) u6 u7)))), (qm, .inl (cJ, 8, .inr (.inl (f8 (mixL (mixL u0 u2 t) (mixL u2 u4 t) t) (mixL (mixL u1 u3 t) (mixL u3 u5 t) t) (mixL (mixL u2 u4 t) (mixL u4 u6 t) t) (mixL (mixL u3 u5 t) (mixL u5 u7 t) t) (mixL u4 u6 t) (mixL u5 u7 t) u6 u7))))] := hD
  refine lv_iconst (v := 0) hx hb d_M_part_107 (by decide) ?_
  refine lv_istore (lv' := [(4, .int 0), (3, .int 2), (0, .ref hm), (1, .long t)]) hx hb d_M_part_108 hl (by decide) rfl (fun ls hl => ?_)
  refine lv_iload hx hb d_M_part_110 (lv_at hl 0 rfl) ?_
  refine lv_iconst (v := 2) hx hb d_M_part_112 (by decide) ?_
  refine lv_iadd hx hb d_M_part_113 ?_
  refine tp_i (2) (by decide) ?_
  refine lv_bipush (v := 8) hx hb d_M_part_114 (by decide) ?_
  refine lv_iconst (v := 2) hx hb d_M_part_116 (by decide) ?_
  refine lv_iload_n hx hb d_M_part_117 rfl (lv_at hl 1 rfl) ?_
  refine lv_imul hx hb d_M_part_118 ?_
  refine tp_i (4) (by decide) ?_
  refine lv_isub hx hb d_M_part_119 ?_
  refine tp_i (4) (by decide) ?_
  refine bn_ge (a1 := 2) (b1 := 4) (tgt := 156) hx hb (by omega) (by omega) d_M_part_120 (by decide) (fun c_35 => ?_) (fun c_35 => ?_)
  · exact absurd c_35 (by decide)
  refine lv_aload_n hx hb d_M_part_123 rfl (lv_at hl 2 rfl) ?_
  refine va_get (D := D) (ci := 1) (v := .ref qm) (C := R_M) (T := T_M) (N := 7) hx hb hts (ui_M _) hown hK hP 0 rfl rfl 6 (by decide) (hts _ (gwc gw_515)) (fun _ h9 => h9) rfl d_M_part_124 ?_
  refine lv_iload hx hb d_M_part_127 (lv_at hl 0 rfl) ?_
  refine lv_aload_n hx hb d_M_part_129 rfl (lv_at hl 2 rfl) ?_
  refine va_get (D := D) (ci := 1) (v := .ref qm) (C := R_M) (T := T_M) (N := 7) hx hb hts (ui_M _) hown hK hP 0 rfl rfl 6 (by decide) (hts _ (gwc gw_515)) (fun _ h9 => h9) rfl d_M_part_130 ?_
  refine lv_iload hx hb d_M_part_133 (lv_at hl 0 rfl) ?_
  refine ld_l hx hb hK hP 4 2 rfl rfl 0 (by omega) (by omega) d_M_part_135 ?_
  refine tp_l (mixL (mixL u0 u2 t) (mixL u2 u4 t) t) (rfl) ?_
  refine lv_aload_n hx hb d_M_part_136 rfl (lv_at hl 2 rfl) ?_
  refine va_get (D := D) (ci := 1) (v := .ref qm) (C := R_M) (T := T_M) (N := 7) hx hb hts (ui_M _) hown hK hP 0 rfl rfl 6 (by decide) (hts _ (gwc gw_515)) (fun _ h9 => h9) rfl d_M_part_137 ?_
  refine lv_iload hx hb d_M_part_140 (lv_at hl 0 rfl) ?_
  refine lv_iconst (v := 2) hx hb d_M_part_142 (by decide) ?_
  refine lv_iadd hx hb d_M_part_143 ?_
  refine tp_i (2) (by decide) ?_
  refine ld_l hx hb hK hP 4 2 rfl rfl 2 (by omega) (by omega) d_M_part_144 ?_
  refine tp_l (mixL (mixL u2 u4 t) (mixL u4 u6 t) t) (rfl) ?_
  refine lv_lload_n hx hb d_M_part_145 rfl (lv_at hl 3 rfl) ?_
  refine ct_callS (av := [.long (mixL (mixL u0 u2 t) (mixL u2 u4 t) t), .long (mixL (mixL u2 u4 t) (mixL u4 u6 t) t), .long t]) (rest := [.int 0, .ref qm]) (wr := [(hm, .inr (1, [.ref a, .ref b, .ref qa, .ref qu, .ref qb, .ref qh, .ref qm])), (qu, .inl (cJ, 8, .inr (.inl (f8 u0 u1 u2 u3 u4 u5 u6 u7)))), (qb, .inl (cJ, 8, .inr (.inl (f8 u0 u1 (mixL u0 u2 t) (mixL u1 u3 t) (mixL (mixL u0 u2 t) (mixL u2 u4 t) t) (mixL (mixL u1 u3 t) (mixL u3 u5 t) t) v6 v7)))), (qh, .inl (cJ, 8, .inr (.inl (f8 w0 w1 (mixL (mixL u2 u4 t) (mixL u4 u6 t) t) (mixL (mixL u3 u5 t) (mixL u5 u7 t) t) (mixL u4 u6 t) (mixL u5 u7 t) u6 u7)))), (qm, .inl (cJ, 8, .inr (.inl (f8 (mixL (mixL u0 u2 t) (mixL u2 u4 t) t) (mixL (mixL u1 u3 t) (mixL u3 u5 t) t) (mixL (mixL u2 u4 t) (mixL u4 u6 t) t) (mixL (mixL u3 u5 t) (mixL u5 u7 t) t) (mixL u4 u6 t) (mixL u5 u7 t) u6 u7))))]) (n := 3) (c_M_mix l D cI cB cJ qQ  (mixL (mixL u0 u2 t) (mixL u2 u4 t) t) (mixL (mixL u2 u4 t) (mixL u4 u6 t) t) t ) hx hb hml hown hts (amb_ok qQ) hK hP hD hS hA hM (gi_S gw_650 gw_651 gw_33 gw_652) rfl (by decide +kernel) ⟨by omega, by omega⟩ [] [0, 1, 2, 3, 4] rfl rfl rfl rfl (by decide) rfl hl.1 rfl (Nat.le_of_ble_eq_true rfl) d_M_part_146 ⟨by omega, by omega⟩ (fun u_36 H locs hok hP hD hS => ?_)
  have hP : va_P D cl [(hm, .inr (1, [.ref a, .ref b, .ref qa, .ref qu, .ref qb, .ref qh, .ref qm])), (qu, .inl (cJ, 8, .inr (.inl (f8 u0 u1 u2 u3 u4 u5 u6 u7)))), (qb, .inl (cJ, 8, .inr (.inl (f8 u0 u1 (mixL u0 u2 t) (mixL u1 u3 t) (mixL (mixL u0 u2 t) (mixL u2 u4 t) t) (mixL (mixL u1 u3 t) (mixL u3 u5 t) t) v6 v7)))), (qh, .inl (cJ, 8, .inr (.inl (f8 w0 w1 (mixL (mixL u2 u4 t) (mixL u4 u6 t) t) (mixL (mixL u3 u5 t) (mixL u5 u7 t) t) (mixL u4 u6 t) (mixL u5 u7 t) u6 u7)))), (qm, .inl (cJ, 8, .inr (.inl (f8 (mixL (mixL u0 u2 t) (mixL u2 u4 t) t) (mixL (mixL u1 u3 t) (mixL u3 u5 t) t) (mixL (mixL u2 u4 t) (mixL u4 u6 t) t) (mixL (mixL u3 u5 t) (mixL u5 u7 t) t) (mixL u4 u6 t) (mixL u5 u7 t) u6 u7))))] H := hP
  have hD : va_D A [(hm, .inr (1, [.ref a, .ref b, .ref qa, .ref qu, .ref qb, .ref qh, .ref qm])), (qu, .inl (cJ, 8, .inr (.inl (f8 u0 u1 u2 u3 u4 u5 u6 u7)))), (qb, .inl (cJ, 8, .inr (.inl (f8 u0 u1 (mixL u0 u2 t) (mixL u1 u3 t) (mixL (mixL u0 u2 t) (mixL u2 u4 t) t) (mixL (mixL u1 u3 t) (mixL u3 u5 t) t) v6 v7)))), (qh, .inl (cJ, 8, .inr (.inl (f8 w0 w1 (mixL (mixL u2 u4 t) (mixL u4 u6 t) t) (mixL (mixL u3 u5 t) (mixL u5 u7 t) t) (mixL u4 u6 t) (mixL u5 u7 t) u6 u7)))), (qm, .inl (cJ, 8, .inr (.inl (f8 (mixL (mixL u0 u2 t) (mixL u2 u4 t) t) (mixL (mixL u1 u3 t) (mixL u3 u5 t) t) (mixL (mixL u2 u4 t) (mixL u4 u6 t) t) (mixL (mixL u3 u5 t) (mixL u5 u7 t) t) (mixL u4 u6 t) (mixL u5 u7 t) u6 u7))))] := hD
  refine W.eq (g2 := F0 m 149 ls [.long (mixL (mixL (mixL u0 u2 t) (mixL u2 u4 t) t) (mixL (mixL u2 u4 t) (mixL u4 u6 t) t) t), .int 0, .ref qm]) rfl ?_
  refine sf_l (f8 (mixL (mixL (mixL u0 u2 t) (mixL u2 u4 t) t) (mixL (mixL u2 u4 t) (mixL u4 u6 t) t) t) (mixL (mixL u1 u3 t) (mixL u3 u5 t) t) (mixL (mixL u2 u4 t) (mixL u4 u6 t) t) (mixL (mixL u3 u5 t) (mixL u5 u7 t) t) (mixL u4 u6 t) (mixL u5 u7 t) u6 u7) hx hb hK hP hD hS 4 2 rfl rfl 0 f8_0 (by decide) (by decide) d_M_part_149 (fun H locs hP hD hS => ?_)
  have hP : va_P D cl [(hm, .inr (1, [.ref a, .ref b, .ref qa, .ref qu, .ref qb, .ref qh, .ref qm])), (qu, .inl (cJ, 8, .inr (.inl (f8 u0 u1 u2 u3 u4 u5 u6 u7)))), (qb, .inl (cJ, 8, .inr (.inl (f8 u0 u1 (mixL u0 u2 t) (mixL u1 u3 t) (mixL (mixL u0 u2 t) (mixL u2 u4 t) t) (mixL (mixL u1 u3 t) (mixL u3 u5 t) t) v6 v7)))), (qh, .inl (cJ, 8, .inr (.inl (f8 w0 w1 (mixL (mixL u2 u4 t) (mixL u4 u6 t) t) (mixL (mixL u3 u5 t) (mixL u5 u7 t) t) (mixL u4 u6 t) (mixL u5 u7 t) u6 u7)))), (qm, .inl (cJ, 8, .inr (.inl (f8 (mixL (mixL (mixL u0 u2 t) (mixL u2 u4 t) t) (mixL (mixL u2 u4 t) (mixL u4 u6 t) t) t) (mixL (mixL u1 u3 t) (mixL u3 u5 t) t) (mixL (mixL u2 u4 t) (mixL u4 u6 t) t) (mixL (mixL u3 u5 t) (mixL u5 u7 t) t) (mixL u4 u6 t) (mixL u5 u7 t) u6 u7))))] H := hP
  have hD : va_D A [(hm, .inr (1, [.ref a, .ref b, .ref qa, .ref qu, .ref qb, .ref qh, .ref qm])), (qu, .inl (cJ, 8, .inr (.inl (f8 u0 u1 u2 u3 u4 u5 u6 u7)))), (qb, .inl (cJ, 8, .inr (.inl (f8 u0 u1 (mixL u0 u2 t) (mixL u1 u3 t) (mixL (mixL u0 u2 t) (mixL u2 u4 t) t) (mixL (mixL u1 u3 t) (mixL u3 u5 t) t) v6 v7)))), (qh, .inl (cJ, 8, .inr (.inl (f8 w0 w1 (mixL (mixL u2 u4 t) (mixL u4 u6 t) t) (mixL (mixL u3 u5 t) (mixL u5 u7 t) t) (mixL u4 u6 t) (mixL u5 u7 t) u6 u7)))), (qm, .inl (cJ, 8, .inr (.inl (f8 (mixL (mixL (mixL u0 u2 t) (mixL u2 u4 t) t) (mixL (mixL u2 u4 t) (mixL u4 u6 t) t) t) (mixL (mixL u1 u3 t) (mixL u3 u5 t) t) (mixL (mixL u2 u4 t) (mixL u4 u6 t) t) (mixL (mixL u3 u5 t) (mixL u5 u7 t) t) (mixL u4 u6 t) (mixL u5 u7 t) u6 u7))))] := hD
  refine lv_iinc (v := 1) (lv' := [(4, .int 1), (3, .int 2), (0, .ref hm), (1, .long t)]) hx hb d_M_part_150 hl (k := 0) rfl (by first | exact nI_add _ 1 | rfl | decide) (by decide) rfl (fun ls hl => ?_)
  refine lv_goto (tgt := 110) hx hb d_M_part_153 (by decide) ?_
  refine lv_iload hx hb d_M_part_110 (lv_at hl 0 rfl) ?_
  refine lv_iconst (v := 2) hx hb d_M_part_112 (by decide) ?_
  refine lv_iadd hx hb d_M_part_113 ?_
  refine tp_i (3) (by decide) ?_
  refine lv_bipush (v := 8) hx hb d_M_part_114 (by decide) ?_
  refine lv_iconst (v := 2) hx hb d_M_part_116 (by decide) ?_
  refine lv_iload_n hx hb d_M_part_117 rfl (lv_at hl 1 rfl) ?_
  refine lv_imul hx hb d_M_part_118 ?_
  refine tp_i (4) (by decide) ?_
  refine lv_isub hx hb d_M_part_119 ?_
  refine tp_i (4) (by decide) ?_
  refine bn_ge (a1 := 3) (b1 := 4) (tgt := 156) hx hb (by omega) (by omega) d_M_part_120 (by decide) (fun c_37 => ?_) (fun c_37 => ?_)
  · exact absurd c_37 (by decide)
  refine lv_aload_n hx hb d_M_part_123 rfl (lv_at hl 2 rfl) ?_
  refine va_get (D := D) (ci := 1) (v := .ref qm) (C := R_M) (T := T_M) (N := 7) hx hb hts (ui_M _) hown hK hP 0 rfl rfl 6 (by decide) (hts _ (gwc gw_515)) (fun _ h9 => h9) rfl d_M_part_124 ?_
  refine lv_iload hx hb d_M_part_127 (lv_at hl 0 rfl) ?_
  refine lv_aload_n hx hb d_M_part_129 rfl (lv_at hl 2 rfl) ?_
  refine va_get (D := D) (ci := 1) (v := .ref qm) (C := R_M) (T := T_M) (N := 7) hx hb hts (ui_M _) hown hK hP 0 rfl rfl 6 (by decide) (hts _ (gwc gw_515)) (fun _ h9 => h9) rfl d_M_part_130 ?_
  refine lv_iload hx hb d_M_part_133 (lv_at hl 0 rfl) ?_
  refine ld_l hx hb hK hP 4 2 rfl rfl 1 (by omega) (by omega) d_M_part_135 ?_
  refine tp_l (mixL (mixL u1 u3 t) (mixL u3 u5 t) t) (rfl) ?_
  refine lv_aload_n hx hb d_M_part_136 rfl (lv_at hl 2 rfl) ?_
  refine va_get (D := D) (ci := 1) (v := .ref qm) (C := R_M) (T := T_M) (N := 7) hx hb hts (ui_M _) hown hK hP 0 rfl rfl 6 (by decide) (hts _ (gwc gw_515)) (fun _ h9 => h9) rfl d_M_part_137 ?_
  refine lv_iload hx hb d_M_part_140 (lv_at hl 0 rfl) ?_
  refine lv_iconst (v := 2) hx hb d_M_part_142 (by decide) ?_
  refine lv_iadd hx hb d_M_part_143 ?_
  refine tp_i (3) (by decide) ?_
  refine ld_l hx hb hK hP 4 2 rfl rfl 3 (by omega) (by omega) d_M_part_144 ?_
  refine tp_l (mixL (mixL u3 u5 t) (mixL u5 u7 t) t) (rfl) ?_
  refine lv_lload_n hx hb d_M_part_145 rfl (lv_at hl 3 rfl) ?_
  refine ct_callS (av := [.long (mixL (mixL u1 u3 t) (mixL u3 u5 t) t), .long (mixL (mixL u3 u5 t) (mixL u5 u7 t) t), .long t]) (rest := [.int 1, .ref qm]) (wr := [(hm, .inr (1, [.ref a, .ref b, .ref qa, .ref qu, .ref qb, .ref qh, .ref qm])), (qu, .inl (cJ, 8, .inr (.inl (f8 u0 u1 u2 u3 u4 u5 u6 u7)))), (qb, .inl (cJ, 8, .inr (.inl (f8 u0 u1 (mixL u0 u2 t) (mixL u1 u3 t) (mixL (mixL u0 u2 t) (mixL u2 u4 t) t) (mixL (mixL u1 u3 t) (mixL u3 u5 t) t) v6 v7)))), (qh, .inl (cJ, 8, .inr (.inl (f8 w0 w1 (mixL (mixL u2 u4 t) (mixL u4 u6 t) t) (mixL (mixL u3 u5 t) (mixL u5 u7 t) t) (mixL u4 u6 t) (mixL u5 u7 t) u6 u7)))), (qm, .inl (cJ, 8, .inr (.inl (f8 (mixL (mixL (mixL u0 u2 t) (mixL u2 u4 t) t) (mixL (mixL u2 u4 t) (mixL u4 u6 t) t) t) (mixL (mixL u1 u3 t) (mixL u3 u5 t) t) (mixL (mixL u2 u4 t) (mixL u4 u6 t) t) (mixL (mixL u3 u5 t) (mixL u5 u7 t) t) (mixL u4 u6 t) (mixL u5 u7 t) u6 u7))))]) (n := 3) (c_M_mix l D cI cB cJ qQ  (mixL (mixL u1 u3 t) (mixL u3 u5 t) t) (mixL (mixL u3 u5 t) (mixL u5 u7 t) t) t ) hx hb hml hown hts (amb_ok qQ) hK hP hD hS hA hM (gi_S gw_650 gw_651 gw_33 gw_652) rfl (by decide +kernel) ⟨by omega, by omega⟩ [] [0, 1, 2, 3, 4] rfl rfl rfl rfl (by decide) rfl hl.1 rfl (Nat.le_of_ble_eq_true rfl) d_M_part_146 ⟨by omega, by omega⟩ (fun u_38 H locs hok hP hD hS => ?_)
  have hP : va_P D cl [(hm, .inr (1, [.ref a, .ref b, .ref qa, .ref qu, .ref qb, .ref qh, .ref qm])), (qu, .inl (cJ, 8, .inr (.inl (f8 u0 u1 u2 u3 u4 u5 u6 u7)))), (qb, .inl (cJ, 8, .inr (.inl (f8 u0 u1 (mixL u0 u2 t) (mixL u1 u3 t) (mixL (mixL u0 u2 t) (mixL u2 u4 t) t) (mixL (mixL u1 u3 t) (mixL u3 u5 t) t) v6 v7)))), (qh, .inl (cJ, 8, .inr (.inl (f8 w0 w1 (mixL (mixL u2 u4 t) (mixL u4 u6 t) t) (mixL (mixL u3 u5 t) (mixL u5 u7 t) t) (mixL u4 u6 t) (mixL u5 u7 t) u6 u7)))), (qm, .inl (cJ, 8, .inr (.inl (f8 (mixL (mixL (mixL u0 u2 t) (mixL u2 u4 t) t) (mixL (mixL u2 u4 t) (mixL u4 u6 t) t) t) (mixL (mixL u1 u3 t) (mixL u3 u5 t) t) (mixL (mixL u2 u4 t) (mixL u4 u6 t) t) (mixL (mixL u3 u5 t) (mixL u5 u7 t) t) (mixL u4 u6 t) (mixL u5 u7 t) u6 u7))))] H := hP
  have hD : va_D A [(hm, .inr (1, [.ref a, .ref b, .ref qa, .ref qu, .ref qb, .ref qh, .ref qm])), (qu, .inl (cJ, 8, .inr (.inl (f8 u0 u1 u2 u3 u4 u5 u6 u7)))), (qb, .inl (cJ, 8, .inr (.inl (f8 u0 u1 (mixL u0 u2 t) (mixL u1 u3 t) (mixL (mixL u0 u2 t) (mixL u2 u4 t) t) (mixL (mixL u1 u3 t) (mixL u3 u5 t) t) v6 v7)))), (qh, .inl (cJ, 8, .inr (.inl (f8 w0 w1 (mixL (mixL u2 u4 t) (mixL u4 u6 t) t) (mixL (mixL u3 u5 t) (mixL u5 u7 t) t) (mixL u4 u6 t) (mixL u5 u7 t) u6 u7)))), (qm, .inl (cJ, 8, .inr (.inl (f8 (mixL (mixL (mixL u0 u2 t) (mixL u2 u4 t) t) (mixL (mixL u2 u4 t) (mixL u4 u6 t) t) t) (mixL (mixL u1 u3 t) (mixL u3 u5 t) t) (mixL (mixL u2 u4 t) (mixL u4 u6 t) t) (mixL (mixL u3 u5 t) (mixL u5 u7 t) t) (mixL u4 u6 t) (mixL u5 u7 t) u6 u7))))] := hD
  refine W.eq (g2 := F0 m 149 ls [.long (mixL (mixL (mixL u1 u3 t) (mixL u3 u5 t) t) (mixL (mixL u3 u5 t) (mixL u5 u7 t) t) t), .int 1, .ref qm]) rfl ?_
  refine sf_l (f8 (mixL (mixL (mixL u0 u2 t) (mixL u2 u4 t) t) (mixL (mixL u2 u4 t) (mixL u4 u6 t) t) t) (mixL (mixL (mixL u1 u3 t) (mixL u3 u5 t) t) (mixL (mixL u3 u5 t) (mixL u5 u7 t) t) t) (mixL (mixL u2 u4 t) (mixL u4 u6 t) t) (mixL (mixL u3 u5 t) (mixL u5 u7 t) t) (mixL u4 u6 t) (mixL u5 u7 t) u6 u7) hx hb hK hP hD hS 4 2 rfl rfl 1 f8_1 (by decide) (by decide) d_M_part_149 (fun H locs hP hD hS => ?_)
  have hP : va_P D cl [(hm, .inr (1, [.ref a, .ref b, .ref qa, .ref qu, .ref qb, .ref qh, .ref qm])), (qu, .inl (cJ, 8, .inr (.inl (f8 u0 u1 u2 u3 u4 u5 u6 u7)))), (qb, .inl (cJ, 8, .inr (.inl (f8 u0 u1 (mixL u0 u2 t) (mixL u1 u3 t) (mixL (mixL u0 u2 t) (mixL u2 u4 t) t) (mixL (mixL u1 u3 t) (mixL u3 u5 t) t) v6 v7)))), (qh, .inl (cJ, 8, .inr (.inl (f8 w0 w1 (mixL (mixL u2 u4 t) (mixL u4 u6 t) t) (mixL (mixL u3 u5 t) (mixL u5 u7 t) t) (mixL u4 u6 t) (mixL u5 u7 t) u6 u7)))), (qm, .inl (cJ, 8, .inr (.inl (f8 (mixL (mixL (mixL u0 u2 t) (mixL u2 u4 t) t) (mixL (mixL u2 u4 t) (mixL u4 u6 t) t) t) (mixL (mixL (mixL u1 u3 t) (mixL u3 u5 t) t) (mixL (mixL u3 u5 t) (mixL u5 u7 t) t) t) (mixL (mixL u2 u4 t) (mixL u4 u6 t) t) (mixL (mixL u3 u5 t) (mixL u5 u7 t) t) (mixL u4 u6 t) (mixL u5 u7 t) u6 u7))))] H := hP
  have hD : va_D A [(hm, .inr (1, [.ref a, .ref b, .ref qa, .ref qu, .ref qb, .ref qh, .ref qm])), (qu, .inl (cJ, 8, .inr (.inl (f8 u0 u1 u2 u3 u4 u5 u6 u7)))), (qb, .inl (cJ, 8, .inr (.inl (f8 u0 u1 (mixL u0 u2 t) (mixL u1 u3 t) (mixL (mixL u0 u2 t) (mixL u2 u4 t) t) (mixL (mixL u1 u3 t) (mixL u3 u5 t) t) v6 v7)))), (qh, .inl (cJ, 8, .inr (.inl (f8 w0 w1 (mixL (mixL u2 u4 t) (mixL u4 u6 t) t) (mixL (mixL u3 u5 t) (mixL u5 u7 t) t) (mixL u4 u6 t) (mixL u5 u7 t) u6 u7)))), (qm, .inl (cJ, 8, .inr (.inl (f8 (mixL (mixL (mixL u0 u2 t) (mixL u2 u4 t) t) (mixL (mixL u2 u4 t) (mixL u4 u6 t) t) t) (mixL (mixL (mixL u1 u3 t) (mixL u3 u5 t) t) (mixL (mixL u3 u5 t) (mixL u5 u7 t) t) t) (mixL (mixL u2 u4 t) (mixL u4 u6 t) t) (mixL (mixL u3 u5 t) (mixL u5 u7 t) t) (mixL u4 u6 t) (mixL u5 u7 t) u6 u7))))] := hD
  refine lv_iinc (v := 2) (lv' := [(4, .int 2), (3, .int 2), (0, .ref hm), (1, .long t)]) hx hb d_M_part_150 hl (k := 0) rfl (by first | exact nI_add _ 1 | rfl | decide) (by decide) rfl (fun ls hl => ?_)
  refine lv_goto (tgt := 110) hx hb d_M_part_153 (by decide) ?_
  refine lv_iload hx hb d_M_part_110 (lv_at hl 0 rfl) ?_
  refine lv_iconst (v := 2) hx hb d_M_part_112 (by decide) ?_
  refine lv_iadd hx hb d_M_part_113 ?_
  refine tp_i (4) (by decide) ?_
  refine lv_bipush (v := 8) hx hb d_M_part_114 (by decide) ?_
  refine lv_iconst (v := 2) hx hb d_M_part_116 (by decide) ?_
  refine lv_iload_n hx hb d_M_part_117 rfl (lv_at hl 1 rfl) ?_
  refine lv_imul hx hb d_M_part_118 ?_
  refine tp_i (4) (by decide) ?_
  refine lv_isub hx hb d_M_part_119 ?_
  refine tp_i (4) (by decide) ?_
  refine bn_ge (a1 := 4) (b1 := 4) (tgt := 156) hx hb (by omega) (by omega) d_M_part_120 (by decide) (fun c_39 => ?_) (fun c_39 => ?_)
  rotate_left
  · exact absurd c_39 (by decide)
  refine lv_iinc (v := 3) (lv' := [(3, .int 3), (4, .int 2), (0, .ref hm), (1, .long t)]) hx hb d_M_part_156 hl (k := 1) rfl (by first | exact nI_add _ 1 | rfl | decide) (by decide) rfl (fun ls hl => ?_)
  refine lv_goto (tgt := 28) hx hb d_M_part_159 (by decide) ?_
  refine lv_iload_n hx hb d_M_part_28 rfl (lv_at hl 0 rfl) ?_
  refine lv_iconst (v := 4) hx hb d_M_part_29 (by decide) ?_
  refine bn_ge (a1 := 3) (b1 := 4) (tgt := 162) hx hb (by omega) (by omega) d_M_part_30 (by decide) (fun c_40 => ?_) (fun c_40 => ?_)
  · exact absurd c_40 (by decide)
  refine lv_aload_n hx hb d_M_part_33 rfl (lv_at hl 2 rfl) ?_
  refine va_get (D := D) (ci := 1) (v := .ref qb) (C := R_M) (T := T_M) (N := 7) hx hb hts (ui_M _) hown hK hP 0 rfl rfl 4 (by decide) (hts _ (gwc gw_513)) (fun _ h9 => h9) rfl d_M_part_34 ?_
  refine lv_iconst (v := 2) hx hb d_M_part_37 (by decide) ?_
  refine lv_iload_n hx hb d_M_part_38 rfl (lv_at hl 0 rfl) ?_
  refine lv_imul hx hb d_M_part_39 ?_
  refine tp_i (6) (by decide) ?_
  refine lv_aload_n hx hb d_M_part_40 rfl (lv_at hl 2 rfl) ?_
  refine va_get (D := D) (ci := 1) (v := .ref qm) (C := R_M) (T := T_M) (N := 7) hx hb hts (ui_M _) hown hK hP 0 rfl rfl 6 (by decide) (hts _ (gwc gw_515)) (fun _ h9 => h9) rfl d_M_part_41 ?_
  refine lv_iconst (v := 0) hx hb d_M_part_44 (by decide) ?_
  refine ld_l hx hb hK hP 4 2 rfl rfl 0 (by omega) (by omega) d_M_part_45 ?_
  refine tp_l (mixL (mixL (mixL u0 u2 t) (mixL u2 u4 t) t) (mixL (mixL u2 u4 t) (mixL u4 u6 t) t) t) (rfl) ?_
  refine sf_l (f8 u0 u1 (mixL u0 u2 t) (mixL u1 u3 t) (mixL (mixL u0 u2 t) (mixL u2 u4 t) t) (mixL (mixL u1 u3 t) (mixL u3 u5 t) t) (mixL (mixL (mixL u0 u2 t) (mixL u2 u4 t) t) (mixL (mixL u2 u4 t) (mixL u4 u6 t) t) t) v7) hx hb hK hP hD hS 2 2 rfl rfl 6 f8_6 (by decide) (by decide) d_M_part_46 (fun H locs hP hD hS => ?_)
  have hP : va_P D cl [(hm, .inr (1, [.ref a, .ref b, .ref qa, .ref qu, .ref qb, .ref qh, .ref qm])), (qu, .inl (cJ, 8, .inr (.inl (f8 u0 u1 u2 u3 u4 u5 u6 u7)))), (qb, .inl (cJ, 8, .inr (.inl (f8 u0 u1 (mixL u0 u2 t) (mixL u1 u3 t) (mixL (mixL u0 u2 t) (mixL u2 u4 t) t) (mixL (mixL u1 u3 t) (mixL u3 u5 t) t) (mixL (mixL (mixL u0 u2 t) (mixL u2 u4 t) t) (mixL (mixL u2 u4 t) (mixL u4 u6 t) t) t) v7)))), (qh, .inl (cJ, 8, .inr (.inl (f8 w0 w1 (mixL (mixL u2 u4 t) (mixL u4 u6 t) t) (mixL (mixL u3 u5 t) (mixL u5 u7 t) t) (mixL u4 u6 t) (mixL u5 u7 t) u6 u7)))), (qm, .inl (cJ, 8, .inr (.inl (f8 (mixL (mixL (mixL u0 u2 t) (mixL u2 u4 t) t) (mixL (mixL u2 u4 t) (mixL u4 u6 t) t) t) (mixL (mixL (mixL u1 u3 t) (mixL u3 u5 t) t) (mixL (mixL u3 u5 t) (mixL u5 u7 t) t) t) (mixL (mixL u2 u4 t) (mixL u4 u6 t) t) (mixL (mixL u3 u5 t) (mixL u5 u7 t) t) (mixL u4 u6 t) (mixL u5 u7 t) u6 u7))))] H := hP
  have hD : va_D A [(hm, .inr (1, [.ref a, .ref b, .ref qa, .ref qu, .ref qb, .ref qh, .ref qm])), (qu, .inl (cJ, 8, .inr (.inl (f8 u0 u1 u2 u3 u4 u5 u6 u7)))), (qb, .inl (cJ, 8, .inr (.inl (f8 u0 u1 (mixL u0 u2 t) (mixL u1 u3 t) (mixL (mixL u0 u2 t) (mixL u2 u4 t) t) (mixL (mixL u1 u3 t) (mixL u3 u5 t) t) (mixL (mixL (mixL u0 u2 t) (mixL u2 u4 t) t) (mixL (mixL u2 u4 t) (mixL u4 u6 t) t) t) v7)))), (qh, .inl (cJ, 8, .inr (.inl (f8 w0 w1 (mixL (mixL u2 u4 t) (mixL u4 u6 t) t) (mixL (mixL u3 u5 t) (mixL u5 u7 t) t) (mixL u4 u6 t) (mixL u5 u7 t) u6 u7)))), (qm, .inl (cJ, 8, .inr (.inl (f8 (mixL (mixL (mixL u0 u2 t) (mixL u2 u4 t) t) (mixL (mixL u2 u4 t) (mixL u4 u6 t) t) t) (mixL (mixL (mixL u1 u3 t) (mixL u3 u5 t) t) (mixL (mixL u3 u5 t) (mixL u5 u7 t) t) t) (mixL (mixL u2 u4 t) (mixL u4 u6 t) t) (mixL (mixL u3 u5 t) (mixL u5 u7 t) t) (mixL u4 u6 t) (mixL u5 u7 t) u6 u7))))] := hD
  refine lv_aload_n hx hb d_M_part_47 rfl (lv_at hl 2 rfl) ?_
  refine va_get (D := D) (ci := 1) (v := .ref qb) (C := R_M) (T := T_M) (N := 7) hx hb hts (ui_M _) hown hK hP 0 rfl rfl 4 (by decide) (hts _ (gwc gw_513)) (fun _ h9 => h9) rfl d_M_part_48 ?_
  refine lv_iconst (v := 2) hx hb d_M_part_51 (by decide) ?_
  refine lv_iload_n hx hb d_M_part_52 rfl (lv_at hl 0 rfl) ?_
  refine lv_imul hx hb d_M_part_53 ?_
  refine tp_i (6) (by decide) ?_
  refine lv_iconst (v := 1) hx hb d_M_part_54 (by decide) ?_
  refine lv_iadd hx hb d_M_part_55 ?_
  refine tp_i (7) (by decide) ?_
  refine lv_aload_n hx hb d_M_part_56 rfl (lv_at hl 2 rfl) ?_
  refine va_get (D := D) (ci := 1) (v := .ref qm) (C := R_M) (T := T_M) (N := 7) hx hb hts (ui_M _) hown hK hP 0 rfl rfl 6 (by decide) (hts _ (gwc gw_515)) (fun _ h9 => h9) rfl d_M_part_57 ?_
  refine lv_iconst (v := 1) hx hb d_M_part_60 (by decide) ?_
  refine ld_l hx hb hK hP 4 2 rfl rfl 1 (by omega) (by omega) d_M_part_61 ?_
  refine tp_l (mixL (mixL (mixL u1 u3 t) (mixL u3 u5 t) t) (mixL (mixL u3 u5 t) (mixL u5 u7 t) t) t) (rfl) ?_
  refine sf_l (f8 u0 u1 (mixL u0 u2 t) (mixL u1 u3 t) (mixL (mixL u0 u2 t) (mixL u2 u4 t) t) (mixL (mixL u1 u3 t) (mixL u3 u5 t) t) (mixL (mixL (mixL u0 u2 t) (mixL u2 u4 t) t) (mixL (mixL u2 u4 t) (mixL u4 u6 t) t) t) (mixL (mixL (mixL u1 u3 t) (mixL u3 u5 t) t) (mixL (mixL u3 u5 t) (mixL u5 u7 t) t) t)) hx hb hK hP hD hS 2 2 rfl rfl 7 f8_7 (by decide) (by decide) d_M_part_62 (fun H locs hP hD hS => ?_)
  have hP : va_P D cl [(hm, .inr (1, [.ref a, .ref b, .ref qa, .ref qu, .ref qb, .ref qh, .ref qm])), (qu, .inl (cJ, 8, .inr (.inl (f8 u0 u1 u2 u3 u4 u5 u6 u7)))), (qb, .inl (cJ, 8, .inr (.inl (f8 u0 u1 (mixL u0 u2 t) (mixL u1 u3 t) (mixL (mixL u0 u2 t) (mixL u2 u4 t) t) (mixL (mixL u1 u3 t) (mixL u3 u5 t) t) (mixL (mixL (mixL u0 u2 t) (mixL u2 u4 t) t) (mixL (mixL u2 u4 t) (mixL u4 u6 t) t) t) (mixL (mixL (mixL u1 u3 t) (mixL u3 u5 t) t) (mixL (mixL u3 u5 t) (mixL u5 u7 t) t) t))))), (qh, .inl (cJ, 8, .inr (.inl (f8 w0 w1 (mixL (mixL u2 u4 t) (mixL u4 u6 t) t) (mixL (mixL u3 u5 t) (mixL u5 u7 t) t) (mixL u4 u6 t) (mixL u5 u7 t) u6 u7)))), (qm, .inl (cJ, 8, .inr (.inl (f8 (mixL (mixL (mixL u0 u2 t) (mixL u2 u4 t) t) (mixL (mixL u2 u4 t) (mixL u4 u6 t) t) t) (mixL (mixL (mixL u1 u3 t) (mixL u3 u5 t) t) (mixL (mixL u3 u5 t) (mixL u5 u7 t) t) t) (mixL (mixL u2 u4 t) (mixL u4 u6 t) t) (mixL (mixL u3 u5 t) (mixL u5 u7 t) t) (mixL u4 u6 t) (mixL u5 u7 t) u6 u7))))] H := hP
  have hD : va_D A [(hm, .inr (1, [.ref a, .ref b, .ref qa, .ref qu, .ref qb, .ref qh, .ref qm])), (qu, .inl (cJ, 8, .inr (.inl (f8 u0 u1 u2 u3 u4 u5 u6 u7)))), (qb, .inl (cJ, 8, .inr (.inl (f8 u0 u1 (mixL u0 u2 t) (mixL u1 u3 t) (mixL (mixL u0 u2 t) (mixL u2 u4 t) t) (mixL (mixL u1 u3 t) (mixL u3 u5 t) t) (mixL (mixL (mixL u0 u2 t) (mixL u2 u4 t) t) (mixL (mixL u2 u4 t) (mixL u4 u6 t) t) t) (mixL (mixL (mixL u1 u3 t) (mixL u3 u5 t) t) (mixL (mixL u3 u5 t) (mixL u5 u7 t) t) t))))), (qh, .inl (cJ, 8, .inr (.inl (f8 w0 w1 (mixL (mixL u2 u4 t) (mixL u4 u6 t) t) (mixL (mixL u3 u5 t) (mixL u5 u7 t) t) (mixL u4 u6 t) (mixL u5 u7 t) u6 u7)))), (qm, .inl (cJ, 8, .inr (.inl (f8 (mixL (mixL (mixL u0 u2 t) (mixL u2 u4 t) t) (mixL (mixL u2 u4 t) (mixL u4 u6 t) t) t) (mixL (mixL (mixL u1 u3 t) (mixL u3 u5 t) t) (mixL (mixL u3 u5 t) (mixL u5 u7 t) t) t) (mixL (mixL u2 u4 t) (mixL u4 u6 t) t) (mixL (mixL u3 u5 t) (mixL u5 u7 t) t) (mixL u4 u6 t) (mixL u5 u7 t) u6 u7))))] := hD
  refine lv_aload_n hx hb d_M_part_63 rfl (lv_at hl 2 rfl) ?_
  refine va_get (D := D) (ci := 1) (v := .ref qh) (C := R_M) (T := T_M) (N := 7) hx hb hts (ui_M _) hown hK hP 0 rfl rfl 5 (by decide) (hts _ (gwc gw_514)) (fun _ h9 => h9) rfl d_M_part_64 ?_
  refine lv_bipush (v := 6) hx hb d_M_part_67 (by decide) ?_
  refine lv_iconst (v := 2) hx hb d_M_part_69 (by decide) ?_
  refine lv_iload_n hx hb d_M_part_70 rfl (lv_at hl 0 rfl) ?_
  refine lv_imul hx hb d_M_part_71 ?_
  refine tp_i (6) (by decide) ?_
  refine lv_isub hx hb d_M_part_72 ?_
  refine tp_i (0) (by decide) ?_
  refine lv_aload_n hx hb d_M_part_73 rfl (lv_at hl 2 rfl) ?_
  refine va_get (D := D) (ci := 1) (v := .ref qm) (C := R_M) (T := T_M) (N := 7) hx hb hts (ui_M _) hown hK hP 0 rfl rfl 6 (by decide) (hts _ (gwc gw_515)) (fun _ h9 => h9) rfl d_M_part_74 ?_
  refine lv_bipush (v := 6) hx hb d_M_part_77 (by decide) ?_
  refine lv_iconst (v := 2) hx hb d_M_part_79 (by decide) ?_
  refine lv_iload_n hx hb d_M_part_80 rfl (lv_at hl 0 rfl) ?_
  refine lv_imul hx hb d_M_part_81 ?_
  refine tp_i (6) (by decide) ?_
  refine lv_isub hx hb d_M_part_82 ?_
  refine tp_i (0) (by decide) ?_
  refine ld_l hx hb hK hP 4 2 rfl rfl 0 (by omega) (by omega) d_M_part_83 ?_
  refine tp_l (mixL (mixL (mixL u0 u2 t) (mixL u2 u4 t) t) (mixL (mixL u2 u4 t) (mixL u4 u6 t) t) t) (rfl) ?_
  refine sf_l (f8 (mixL (mixL (mixL u0 u2 t) (mixL u2 u4 t) t) (mixL (mixL u2 u4 t) (mixL u4 u6 t) t) t) w1 (mixL (mixL u2 u4 t) (mixL u4 u6 t) t) (mixL (mixL u3 u5 t) (mixL u5 u7 t) t) (mixL u4 u6 t) (mixL u5 u7 t) u6 u7) hx hb hK hP hD hS 3 2 rfl rfl 0 f8_0 (by decide) (by decide) d_M_part_84 (fun H locs hP hD hS => ?_)
  have hP : va_P D cl [(hm, .inr (1, [.ref a, .ref b, .ref qa, .ref qu, .ref qb, .ref qh, .ref qm])), (qu, .inl (cJ, 8, .inr (.inl (f8 u0 u1 u2 u3 u4 u5 u6 u7)))), (qb, .inl (cJ, 8, .inr (.inl (f8 u0 u1 (mixL u0 u2 t) (mixL u1 u3 t) (mixL (mixL u0 u2 t) (mixL u2 u4 t) t) (mixL (mixL u1 u3 t) (mixL u3 u5 t) t) (mixL (mixL (mixL u0 u2 t) (mixL u2 u4 t) t) (mixL (mixL u2 u4 t) (mixL u4 u6 t) t) t) (mixL (mixL (mixL u1 u3 t) (mixL u3 u5 t) t) (mixL (mixL u3 u5 t) (mixL u5 u7 t) t) t))))), (qh, .inl (cJ, 8, .inr (.inl (f8 (mixL (mixL (mixL u0 u2 t) (mixL u2 u4 t) t) (mixL (mixL u2 u4 t) (mixL u4 u6 t) t) t) w1 (mixL (mixL u2 u4 t) (mixL u4 u6 t) t) (mixL (mixL u3 u5 t) (mixL u5 u7 t) t) (mixL u4 u6 t) (mixL u5 u7 t) u6 u7)))), (qm, .inl (cJ, 8, .inr (.inl (f8 (mixL (mixL (mixL u0 u2 t) (mixL u2 u4 t) t) (mixL (mixL u2 u4 t) (mixL u4 u6 t) t) t) (mixL (mixL (mixL u1 u3 t) (mixL u3 u5 t) t) (mixL (mixL u3 u5 t) (mixL u5 u7 t) t) t) (mixL (mixL u2 u4 t) (mixL u4 u6 t) t) (mixL (mixL u3 u5 t) (mixL u5 u7 t) t) (mixL u4 u6 t) (mixL u5 u7 t) u6 u7))))] H := hP
  have hD : va_D A [(hm, .inr (1, [.ref a, .ref b, .ref qa, .ref qu, .ref qb, .ref qh, .ref qm])), (qu, .inl (cJ, 8, .inr (.inl (f8 u0 u1 u2 u3 u4 u5 u6 u7)))), (qb, .inl (cJ, 8, .inr (.inl (f8 u0 u1 (mixL u0 u2 t) (mixL u1 u3 t) (mixL (mixL u0 u2 t) (mixL u2 u4 t) t) (mixL (mixL u1 u3 t) (mixL u3 u5 t) t) (mixL (mixL (mixL u0 u2 t) (mixL u2 u4 t) t) (mixL (mixL u2 u4 t) (mixL u4 u6 t) t) t) (mixL (mixL (mixL u1 u3 t) (mixL u3 u5 t) t) (mixL (mixL u3 u5 t) (mixL u5 u7 t) t) t))))), (qh, .inl (cJ, 8, .inr (.inl (f8 (mixL (mixL (mixL u0 u2 t) (mixL u2 u4 t) t) (mixL (mixL u2 u4 t) (mixL u4 u6 t) t) t) w1 (mixL (mixL u2 u4 t) (mixL u4 u6 t) t) (mixL (mixL u3 u5 t) (mixL u5 u7 t) t) (mixL u4 u6 t) (mixL u5 u7 t) u6 u7)))), (qm, .inl (cJ, 8, .inr (.inl (f8 (mixL (mixL (mixL u0 u2 t) (mixL u2 u4 t) t) (mixL (mixL u2 u4 t) (mixL u4 u6 t) t) t) (mixL (mixL (mixL u1 u3 t) (mixL u3 u5 t) t) (mixL (mixL u3 u5 t) (mixL u5 u7 t) t) t) (mixL (mixL u2 u4 t) (mixL u4 u6 t) t) (mixL (mixL u3 u5 t) (mixL u5 u7 t) t) (mixL u4 u6 t) (mixL u5 u7 t) u6 u7))))] := hD
  refine lv_aload_n hx hb d_M_part_85 rfl (lv_at hl 2 rfl) ?_
  refine va_get (D := D) (ci := 1) (v := .ref qh) (C := R_M) (T := T_M) (N := 7) hx hb hts (ui_M _) hown hK hP 0 rfl rfl 5 (by decide) (hts _ (gwc gw_514)) (fun _ h9 => h9) rfl d_M_part_86 ?_
  refine lv_bipush (v := 7) hx hb d_M_part_89 (by decide) ?_
  refine lv_iconst (v := 2) hx hb d_M_part_91 (by decide) ?_
  refine lv_iload_n hx hb d_M_part_92 rfl (lv_at hl 0 rfl) ?_
  refine lv_imul hx hb d_M_part_93 ?_
  refine tp_i (6) (by decide) ?_
  refine lv_isub hx hb d_M_part_94 ?_
  refine tp_i (1) (by decide) ?_
  refine lv_aload_n hx hb d_M_part_95 rfl (lv_at hl 2 rfl) ?_
  refine va_get (D := D) (ci := 1) (v := .ref qm) (C := R_M) (T := T_M) (N := 7) hx hb hts (ui_M _) hown hK hP 0 rfl rfl 6 (by decide) (hts _ (gwc gw_515)) (fun _ h9 => h9) rfl d_M_part_96 ?_
  refine lv_bipush (v := 7) hx hb d_M_part_99 (by decide) ?_
  refine lv_iconst (v := 2) hx hb d_M_part_101 (by decide) ?_
  refine lv_iload_n hx hb d_M_part_102 rfl (lv_at hl 0 rfl) ?_
  refine lv_imul hx hb d_M_part_103 ?_
  refine tp_i (6) (by decide) ?_
  refine lv_isub hx hb d_M_part_104 ?_
  refine tp_i (1) (by decide) ?_
  refine ld_l hx hb hK hP 4 2 rfl rfl 1 (by omega) (by omega) d_M_part_105 ?_
  refine tp_l (mixL (mixL (mixL u1 u3 t) (mixL u3 u5 t) t) (mixL (mixL u3 u5 t) (mixL u5 u7 t) t) t) (rfl) ?_
  refine sf_l (f8 (mixL (mixL (mixL u0 u2 t) (mixL u2 u4 t) t) (mixL (mixL u2 u4 t) (mixL u4 u6 t) t) t) (mixL (mixL (mixL u1 u3 t) (mixL u3 u5 t) t) (mixL (mixL u3 u5 t) (mixL u5 u7 t) t) t) (mixL (mixL u2 u4 t) (mixL u4 u6 t) t) (mixL (mixL u3 u5 t) (mixL u5 u7 t) t) (mixL u4 u6 t) (mixL u5 u7 t) u6 u7) hx hb hK hP hD hS 3 2 rfl rfl 1 f8_1 (by decide) (by decide) d_M_part_106 (fun H locs hP hD hS => ?_)
  have hP : va_P D cl [(hm, .inr (1, [.ref a, .ref b, .ref qa, .ref qu, .ref qb, .ref qh, .ref qm])), (qu, .inl (cJ, 8, .inr (.inl (f8 u0 u1 u2 u3 u4 u5 u6 u7)))), (qb, .inl (cJ, 8, .inr (.inl (f8 u0 u1 (mixL u0 u2 t) (mixL u1 u3 t) (mixL (mixL u0 u2 t) (mixL u2 u4 t) t) (mixL (mixL u1 u3 t) (mixL u3 u5 t) t) (mixL (mixL (mixL u0 u2 t) (mixL u2 u4 t) t) (mixL (mixL u2 u4 t) (mixL u4 u6 t) t) t) (mixL (mixL (mixL u1 u3 t) (mixL u3 u5 t) t) (mixL (mixL u3 u5 t) (mixL u5 u7 t) t) t))))), (qh, .inl (cJ, 8, .inr (.inl (f8 (mixL (mixL (mixL u0 u2 t) (mixL u2 u4 t) t) (mixL (mixL u2 u4 t) (mixL u4 u6 t) t) t) (mixL (mixL (mixL u1 u3 t) (mixL u3 u5 t) t) (mixL (mixL u3 u5 t) (mixL u5 u7 t) t) t) (mixL (mixL u2 u4 t) (mixL u4 u6 t) t) (mixL (mixL u3 u5 t) (mixL u5 u7 t) t) (mixL u4 u6 t) (mixL u5 u7 t) u6 u7)))), (qm, .inl (cJ, 8, .inr (.inl (f8 (mixL (mixL (mixL u0 u2 t) (mixL u2 u4 t) t) (mixL (mixL u2 u4 t) (mixL u4 u6 t) t) t) (mixL (mixL (mixL u1 u3 t) (mixL u3 u5 t) t) (mixL (mixL u3 u5 t) (mixL u5 u7 t) t) t) (mixL (mixL u2 u4 t) (mixL u4 u6 t) t) (mixL (mixL u3 u5 t) (mixL u5 u7 t) t) (mixL u4 u6 t) (mixL u5 u7 t) u6 u7))))] H := hP
  have hD : va_D A [(hm, .inr (1, [.ref a, .ref b, .ref qa, .ref qu, .ref qb, .ref qh, .ref qm])), (qu, .inl (cJ, 8, .inr (.inl (f8 u0 u1 u2 u3 u4 u5 u6 u7)))), (qb, .inl (cJ, 8, .inr (.inl (f8 u0 u1 (mixL u0 u2 t) (mixL u1 u3 t) (mixL (mixL u0 u2 t) (mixL u2 u4 t) t) (mixL (mixL u1 u3 t) (mixL u3 u5 t) t) (mixL (mixL (mixL u0 u2 t) (mixL u2 u4 t) t) (mixL (mixL u2 u4 t) (mixL u4 u6 t) t) t) (mixL (mixL (mixL u1 u3 t) (mixL u3 u5 t) t) (mixL (mixL u3 u5 t) (mixL u5 u7 t) t) t))))), (qh, .inl (cJ, 8, .inr (.inl (f8 (mixL (mixL (mixL u0 u2 t) (mixL u2 u4 t) t) (mixL (mixL u2 u4 t) (mixL u4 u6 t) t) t) (mixL (mixL (mixL u1 u3 t) (mixL u3 u5 t) t) (mixL (mixL u3 u5 t) (mixL u5 u7 t) t) t) (mixL (mixL u2 u4 t) (mixL u4 u6 t) t) (mixL (mixL u3 u5 t) (mixL u5 u7 t) t) (mixL u4 u6 t) (mixL u5 u7 t) u6 u7)))), (qm, .inl (cJ, 8, .inr (.inl (f8 (mixL (mixL (mixL u0 u2 t) (mixL u2 u4 t) t) (mixL (mixL u2 u4 t) (mixL u4 u6 t) t) t) (mixL (mixL (mixL u1 u3 t) (mixL u3 u5 t) t) (mixL (mixL u3 u5 t) (mixL u5 u7 t) t) t) (mixL (mixL u2 u4 t) (mixL u4 u6 t) t) (mixL (mixL u3 u5 t) (mixL u5 u7 t) t) (mixL u4 u6 t) (mixL u5 u7 t) u6 u7))))] := hD
  refine lv_iconst (v := 0) hx hb d_M_part_107 (by decide) ?_
  refine lv_istore (lv' := [(4, .int 0), (3, .int 3), (0, .ref hm), (1, .long t)]) hx hb d_M_part_108 hl (by decide) rfl (fun ls hl => ?_)
  refine lv_iload hx hb d_M_part_110 (lv_at hl 0 rfl) ?_
  refine lv_iconst (v := 2) hx hb d_M_part_112 (by decide) ?_
  refine lv_iadd hx hb d_M_part_113 ?_
  refine tp_i (2) (by decide) ?_
  refine lv_bipush (v := 8) hx hb d_M_part_114 (by decide) ?_
  refine lv_iconst (v := 2) hx hb d_M_part_116 (by decide) ?_
  refine lv_iload_n hx hb d_M_part_117 rfl (lv_at hl 1 rfl) ?_
  refine lv_imul hx hb d_M_part_118 ?_
  refine tp_i (6) (by decide) ?_
  refine lv_isub hx hb d_M_part_119 ?_
  refine tp_i (2) (by decide) ?_
  refine bn_ge (a1 := 2) (b1 := 2) (tgt := 156) hx hb (by omega) (by omega) d_M_part_120 (by decide) (fun c_41 => ?_) (fun c_41 => ?_)
  rotate_left
  · exact absurd c_41 (by decide)
  refine lv_iinc (v := 4) (lv' := [(3, .int 4), (4, .int 0), (0, .ref hm), (1, .long t)]) hx hb d_M_part_156 hl (k := 1) rfl (by first | exact nI_add _ 1 | rfl | decide) (by decide) rfl (fun ls hl => ?_)
  refine lv_goto (tgt := 28) hx hb d_M_part_159 (by decide) ?_
  refine lv_iload_n hx hb d_M_part_28 rfl (lv_at hl 0 rfl) ?_
  refine lv_iconst (v := 4) hx hb d_M_part_29 (by decide) ?_
  refine bn_ge (a1 := 4) (b1 := 4) (tgt := 162) hx hb (by omega) (by omega) d_M_part_30 (by decide) (fun c_42 => ?_) (fun c_42 => ?_)
  rotate_left
  · exact absurd c_42 (by decide)
  exact ct_retv hQ hx hb hr hlocks hP hD hS (mixL (mixL (mixL u0 u2 t) (mixL u2 u4 t) t) (mixL (mixL u2 u4 t) (mixL u4 u6 t) t) t, mixL (mixL (mixL u1 u3 t) (mixL u3 u5 t) t) (mixL (mixL u3 u5 t) (mixL u5 u7 t) t) t, mixL (mixL u2 u4 t) (mixL u4 u6 t) t, mixL (mixL u3 u5 t) (mixL u5 u7 t) t, mixL u4 u6 t, mixL u5 u7 t, u6, u7) [(hm, .inr (1, [.ref a, .ref b, .ref qa, .ref qu, .ref qb, .ref qh, .ref qm])), (qu, .inl (cJ, 8, .inr (.inl (f8 u0 u1 u2 u3 u4 u5 u6 u7)))), (qb, .inl (cJ, 8, .inr (.inl (f8 u0 u1 (mixL u0 u2 t) (mixL u1 u3 t) (mixL (mixL u0 u2 t) (mixL u2 u4 t) t) (mixL (mixL u1 u3 t) (mixL u3 u5 t) t) (mixL (mixL (mixL u0 u2 t) (mixL u2 u4 t) t) (mixL (mixL u2 u4 t) (mixL u4 u6 t) t) t) (mixL (mixL (mixL u1 u3 t) (mixL u3 u5 t) t) (mixL (mixL u3 u5 t) (mixL u5 u7 t) t) t))))), (qh, .inl (cJ, 8, .inr (.inl (f8 (mixL (mixL (mixL u0 u2 t) (mixL u2 u4 t) t) (mixL (mixL u2 u4 t) (mixL u4 u6 t) t) t) (mixL (mixL (mixL u1 u3 t) (mixL u3 u5 t) t) (mixL (mixL u3 u5 t) (mixL u5 u7 t) t) t) (mixL (mixL u2 u4 t) (mixL u4 u6 t) t) (mixL (mixL u3 u5 t) (mixL u5 u7 t) t) (mixL u4 u6 t) (mixL u5 u7 t) u6 u7)))), (qm, .inl (cJ, 8, .inr (.inl (f8 (mixL (mixL (mixL u0 u2 t) (mixL u2 u4 t) t) (mixL (mixL u2 u4 t) (mixL u4 u6 t) t) t) (mixL (mixL (mixL u1 u3 t) (mixL u3 u5 t) t) (mixL (mixL u3 u5 t) (mixL u5 u7 t) t) t) (mixL (mixL u2 u4 t) (mixL u4 u6 t) t) (mixL (mixL u3 u5 t) (mixL u5 u7 t) t) (mixL u4 u6 t) (mixL u5 u7 t) u6 u7))))] [0, 1, 2, 3, 4] (rfl) (trivial) (rfl) rfl rfl (by omega) (by omega) d_M_part_162
set_option maxHeartbeats 40000000 in
set_option maxRecDepth 100000 in
/-- cut -/
theorem c_M_cut (l : Launch) (D : va_G) (cI cB cJ : ClassId) (qQ : Nat) (hm : Nat) (a : Nat) (b : Nat) (qa : Nat) (qu : Nat) (qb : Nat) (qh : Nat) (qm : Nat) (u0 : Int64) (u1 : Int64) (u2 : Int64) (u3 : Int64) (u4 : Int64) (u5 : Int64) (u6 : Int64) (u7 : Int64) (v0 : Int64) (v1 : Int64) (v2 : Int64) (v3 : Int64) (v4 : Int64) (v5 : Int64) (v6 : Int64) (v7 : Int64) (w0 : Int64) (w1 : Int64) (w2 : Int64) (w3 : Int64) (w4 : Int64) (w5 : Int64) (w6 : Int64) (w7 : Int64) (g0 : Int64) (g1 : Int64) (g2 : Int64) (g3 : Int64) (g4 : Int64) (g5 : Int64) (g6 : Int64) (g7 : Int64) (z : Int64) (t : Int64) (ht : ¬ 2 * t = 0) : ct l D cl [(cI, .int), (cB, .byte), (cJ, .long)] (amb qQ) y_M_cut w_M_cut 3 74 (0) (0) [.ref hm, .long z, .long t] [(hm, .inr (1, [.ref a, .ref b, .ref qa, .ref qu, .ref qb, .ref qh, .ref qm])), (qu, .inl (cJ, 8, .inr (.inl (f8 u0 u1 u2 u3 u4 u5 u6 u7)))), (qb, .inl (cJ, 8, .inr (.inl (f8 v0 v1 v2 v3 v4 v5 v6 v7)))), (qh, .inl (cJ, 8, .inr (.inl (f8 w0 w1 w2 w3 w4 w5 w6 w7)))), (qm, .inl (cJ, 8, .inr (.inl (f8 g0 g1 g2 g3 g4 g5 g6 g7))))] (fun u_ : Int64 × Int64 × Int64 × Int64 × Int64 × Int64 × Int64 × Int64 × Int64 × Int64 × Int64 × Int64 × Int64 × Int64 × Int64 × Int64 × Int64 × Int64 × Int64 × Int64 × Int64 × Int64 × Int64 × Int64 × Int64 × Int64 × Int64 × Int64 × Int64 × Int64 × Int64 × Int64 => match u_ with | (u0', u1', u2', u3', u4', u5', u6', u7', v0', v1', v2', v3', v4', v5', v6', v7', w0', w1', w2', w3', w4', w5', w6', w7', g0', g1', g2', g3', g4', g5', g6', g7') => (u0', u1', u2', u3', u4', u5', u6', u7') = cut8 (u0, u1, u2, u3, u4, u5, u6, u7) z t) (fun u_ : Int64 × Int64 × Int64 × Int64 × Int64 × Int64 × Int64 × Int64 × Int64 × Int64 × Int64 × Int64 × Int64 × Int64 × Int64 × Int64 × Int64 × Int64 × Int64 × Int64 × Int64 × Int64 × Int64 × Int64 × Int64 × Int64 × Int64 × Int64 × Int64 × Int64 × Int64 × Int64 => match u_ with | (u0', u1', u2', u3', u4', u5', u6', u7', v0', v1', v2', v3', v4', v5', v6', v7', w0', w1', w2', w3', w4', w5', w6', w7', g0', g1', g2', g3', g4', g5', g6', g7') => none) (fun u_ : Int64 × Int64 × Int64 × Int64 × Int64 × Int64 × Int64 × Int64 × Int64 × Int64 × Int64 × Int64 × Int64 × Int64 × Int64 × Int64 × Int64 × Int64 × Int64 × Int64 × Int64 × Int64 × Int64 × Int64 × Int64 × Int64 × Int64 × Int64 × Int64 × Int64 × Int64 × Int64 => match u_ with | (u0', u1', u2', u3', u4', u5', u6', u7', v0', v1', v2', v3', v4', v5', v6', v7', w0', w1', w2', w3', w4', w5', w6', w7', g0', g1', g2', g3', g4', g5', g6', g7') => [(hm, .inr (1, [.ref a, .ref b, .ref qa, .ref qu, .ref qb, .ref qh, .ref qm])), (qu, .inl (cJ, 8, .inr (.inl (f8 u0' u1' u2' u3' u4' u5' u6' u7')))), (qb, .inl (cJ, 8, .inr (.inl (f8 v0' v1' v2' v3' v4' v5' v6' v7')))), (qh, .inl (cJ, 8, .inr (.inl (f8 w0' w1' w2' w3' w4' w5' w6' w7')))), (qm, .inl (cJ, 8, .inr (.inl (f8 g0' g1' g2' g3' g4' g5' g6' g7'))))]) := by
  refine ct_ofW (cc := b_M_cut) (maxL := 6) (ret := none) (by decide) rfl (Nat.le_of_ble_eq_true rfl) ?_
  intro p e R s m args below meth c A Q ls hx hb hr hml hts hown hlocks hname hRf hRc hRs hRl hQ hK hP hD hS hA hM hl
  have hl : lv_has ls 6 [(0, .ref hm), (1, .long z), (3, .long t)] := hl
  refine lv_aload_n hx hb d_M_cut_0 rfl (lv_at hl 0 rfl) ?_
  refine lv_lload_n hx hb d_M_cut_1 rfl (lv_at hl 2 rfl) ?_
  refine ct_callV (ci := 1) (q0 := 0) (As := [.long t]) (rest := []) (wr := []) (n := 1) (c_M_part l D cI cB cJ qQ  hm a b qa qu qb qh qm u0 u1 u2 u3 u4 u5 u6 u7 v0 v1 v2 v3 v4 v5 v6 v7 w0 w1 w2 w3 w4 w5 w6 w7 g0 g1 g2 g3 g4 g5 g6 g7 t ) hx hb hml hown hts (amb_ok qQ) hK hP hD hS hA hM (gi_V gw_646 gw_648 gw_22 gw_33 gw_649) rfl (by decide +kernel) ⟨by omega, by omega⟩ [0, 1, 2, 3, 4] [] rfl rfl rfl rfl (by decide) rfl rfl rfl hl.1 rfl (Nat.le_of_ble_eq_true rfl) d_M_cut_2 ⟨by omega, by omega⟩ (fun u_1 H locs hok hP hD hS => ?_)
  obtain ⟨g0'_2, g1'_3, g2'_4, g3'_5, g4'_6, g5'_7, g6'_8, g7'_9⟩ := u_1
  have hP : va_P D cl [(hm, .inr (1, [.ref a, .ref b, .ref qa, .ref qu, .ref qb, .ref qh, .ref qm])), (qu, .inl (cJ, 8, .inr (.inl (f8 u0 u1 u2 u3 u4 u5 u6 u7)))), (qb, .inl (cJ, 8, .inr (.inl (f8 u0 u1 (mixL u0 u2 t) (mixL u1 u3 t) (mx2 u0 u2 u4 t) (mx2 u1 u3 u5 t) (mx3 u0 u2 u4 u6 t) (mx3 u1 u3 u5 u7 t))))), (qh, .inl (cJ, 8, .inr (.inl (f8 (mx3 u0 u2 u4 u6 t) (mx3 u1 u3 u5 u7 t) (mx2 u2 u4 u6 t) (mx2 u3 u5 u7 t) (mixL u4 u6 t) (mixL u5 u7 t) u6 u7)))), (qm, .inl (cJ, 8, .inr (.inl (f8 g0'_2 g1'_3 g2'_4 g3'_5 g4'_6 g5'_7 g6'_8 g7'_9))))] H := hP
  have hD : va_D A [(hm, .inr (1, [.ref a, .ref b, .ref qa, .ref qu, .ref qb, .ref qh, .ref qm])), (qu, .inl (cJ, 8, .inr (.inl (f8 u0 u1 u2 u3 u4 u5 u6 u7)))), (qb, .inl (cJ, 8, .inr (.inl (f8 u0 u1 (mixL u0 u2 t) (mixL u1 u3 t) (mx2 u0 u2 u4 t) (mx2 u1 u3 u5 t) (mx3 u0 u2 u4 u6 t) (mx3 u1 u3 u5 u7 t))))), (qh, .inl (cJ, 8, .inr (.inl (f8 (mx3 u0 u2 u4 u6 t) (mx3 u1 u3 u5 u7 t) (mx2 u2 u4 u6 t) (mx2 u3 u5 u7 t) (mixL u4 u6 t) (mixL u5 u7 t) u6 u7)))), (qm, .inl (cJ, 8, .inr (.inl (f8 g0'_2 g1'_3 g2'_4 g3'_5 g4'_6 g5'_7 g6'_8 g7'_9))))] := hD
  refine W.eq (g2 := F0 m 5 ls []) rfl ?_
  refine lv_iconst (v := 0) hx hb d_M_cut_5 (by decide) ?_
  refine lv_istore (lv' := [(5, .int 0), (0, .ref hm), (1, .long z), (3, .long t)]) hx hb d_M_cut_6 hl (by decide) rfl (fun ls hl => ?_)
  refine lv_iload hx hb d_M_cut_8 (lv_at hl 0 rfl) ?_
  refine lv_bipush (v := 8) hx hb d_M_cut_10 (by decide) ?_
  refine bn_ge (a1 := 0) (b1 := 8) (tgt := 35) hx hb (by omega) (by omega) d_M_cut_12 (by decide) (fun c_10 => ?_) (fun c_10 => ?_)
  · exact absurd c_10 (by decide)
  refine lv_aload_n hx hb d_M_cut_15 rfl (lv_at hl 1 rfl) ?_
  refine va_get (D := D) (ci := 1) (v := .ref qu) (C := R_M) (T := T_M) (N := 7) hx hb hts (ui_M _) hown hK hP 0 rfl rfl 3 (by decide) (hts _ (gwc gw_512)) (fun _ h9 => h9) rfl d_M_cut_16 ?_
  refine lv_iload hx hb d_M_cut_19 (lv_at hl 0 rfl) ?_
  refine lv_aload_n hx hb d_M_cut_21 rfl (lv_at hl 1 rfl) ?_
  refine va_get (D := D) (ci := 1) (v := .ref qb) (C := R_M) (T := T_M) (N := 7) hx hb hts (ui_M _) hown hK hP 0 rfl rfl 4 (by decide) (hts _ (gwc gw_513)) (fun _ h9 => h9) rfl d_M_cut_22 ?_
  refine lv_iload hx hb d_M_cut_25 (lv_at hl 0 rfl) ?_
  refine ld_l hx hb hK hP 2 2 rfl rfl 0 (by omega) (by omega) d_M_cut_27 ?_
  refine tp_l (u0) (rfl) ?_
  refine sf_l (f8 u0 u1 u2 u3 u4 u5 u6 u7) hx hb hK hP hD hS 1 2 rfl rfl 0 f8_0 (by decide) (by decide) d_M_cut_28 (fun H locs hP hD hS => ?_)
  have hP : va_P D cl [(hm, .inr (1, [.ref a, .ref b, .ref qa, .ref qu, .ref qb, .ref qh, .ref qm])), (qu, .inl (cJ, 8, .inr (.inl (f8 u0 u1 u2 u3 u4 u5 u6 u7)))), (qb, .inl (cJ, 8, .inr (.inl (f8 u0 u1 (mixL u0 u2 t) (mixL u1 u3 t) (mx2 u0 u2 u4 t) (mx2 u1 u3 u5 t) (mx3 u0 u2 u4 u6 t) (mx3 u1 u3 u5 u7 t))))), (qh, .inl (cJ, 8, .inr (.inl (f8 (mx3 u0 u2 u4 u6 t) (mx3 u1 u3 u5 u7 t) (mx2 u2 u4 u6 t) (mx2 u3 u5 u7 t) (mixL u4 u6 t) (mixL u5 u7 t) u6 u7)))), (qm, .inl (cJ, 8, .inr (.inl (f8 g0'_2 g1'_3 g2'_4 g3'_5 g4'_6 g5'_7 g6'_8 g7'_9))))] H := hP
  have hD : va_D A [(hm, .inr (1, [.ref a, .ref b, .ref qa, .ref qu, .ref qb, .ref qh, .ref qm])), (qu, .inl (cJ, 8, .inr (.inl (f8 u0 u1 u2 u3 u4 u5 u6 u7)))), (qb, .inl (cJ, 8, .inr (.inl (f8 u0 u1 (mixL u0 u2 t) (mixL u1 u3 t) (mx2 u0 u2 u4 t) (mx2 u1 u3 u5 t) (mx3 u0 u2 u4 u6 t) (mx3 u1 u3 u5 u7 t))))), (qh, .inl (cJ, 8, .inr (.inl (f8 (mx3 u0 u2 u4 u6 t) (mx3 u1 u3 u5 u7 t) (mx2 u2 u4 u6 t) (mx2 u3 u5 u7 t) (mixL u4 u6 t) (mixL u5 u7 t) u6 u7)))), (qm, .inl (cJ, 8, .inr (.inl (f8 g0'_2 g1'_3 g2'_4 g3'_5 g4'_6 g5'_7 g6'_8 g7'_9))))] := hD
  refine lv_iinc (v := 1) (lv' := [(5, .int 1), (0, .ref hm), (1, .long z), (3, .long t)]) hx hb d_M_cut_29 hl (k := 0) rfl (by first | exact nI_add _ 1 | rfl | decide) (by decide) rfl (fun ls hl => ?_)
  refine lv_goto (tgt := 8) hx hb d_M_cut_32 (by decide) ?_
  refine lv_iload hx hb d_M_cut_8 (lv_at hl 0 rfl) ?_
  refine lv_bipush (v := 8) hx hb d_M_cut_10 (by decide) ?_
  refine bn_ge (a1 := 1) (b1 := 8) (tgt := 35) hx hb (by omega) (by omega) d_M_cut_12 (by decide) (fun c_11 => ?_) (fun c_11 => ?_)
  · exact absurd c_11 (by decide)
  refine lv_aload_n hx hb d_M_cut_15 rfl (lv_at hl 1 rfl) ?_
  refine va_get (D := D) (ci := 1) (v := .ref qu) (C := R_M) (T := T_M) (N := 7) hx hb hts (ui_M _) hown hK hP 0 rfl rfl 3 (by decide) (hts _ (gwc gw_512)) (fun _ h9 => h9) rfl d_M_cut_16 ?_
  refine lv_iload hx hb d_M_cut_19 (lv_at hl 0 rfl) ?_
  refine lv_aload_n hx hb d_M_cut_21 rfl (lv_at hl 1 rfl) ?_
  refine va_get (D := D) (ci := 1) (v := .ref qb) (C := R_M) (T := T_M) (N := 7) hx hb hts (ui_M _) hown hK hP 0 rfl rfl 4 (by decide) (hts _ (gwc gw_513)) (fun _ h9 => h9) rfl d_M_cut_22 ?_
  refine lv_iload hx hb d_M_cut_25 (lv_at hl 0 rfl) ?_
  refine ld_l hx hb hK hP 2 2 rfl rfl 1 (by omega) (by omega) d_M_cut_27 ?_
  refine tp_l (u1) (rfl) ?_
  refine sf_l (f8 u0 u1 u2 u3 u4 u5 u6 u7) hx hb hK hP hD hS 1 2 rfl rfl 1 f8_1 (by decide) (by decide) d_M_cut_28 (fun H locs hP hD hS => ?_)
  have hP : va_P D cl [(hm, .inr (1, [.ref a, .ref b, .ref qa, .ref qu, .ref qb, .ref qh, .ref qm])), (qu, .inl (cJ, 8, .inr (.inl (f8 u0 u1 u2 u3 u4 u5 u6 u7)))), (qb, .inl (cJ, 8, .inr (.inl (f8 u0 u1 (mixL u0 u2 t) (mixL u1 u3 t) (mx2 u0 u2 u4 t) (mx2 u1 u3 u5 t) (mx3 u0 u2 u4 u6 t) (mx3 u1 u3 u5 u7 t))))), (qh, .inl (cJ, 8, .inr (.inl (f8 (mx3 u0 u2 u4 u6 t) (mx3 u1 u3 u5 u7 t) (mx2 u2 u4 u6 t) (mx2 u3 u5 u7 t) (mixL u4 u6 t) (mixL u5 u7 t) u6 u7)))), (qm, .inl (cJ, 8, .inr (.inl (f8 g0'_2 g1'_3 g2'_4 g3'_5 g4'_6 g5'_7 g6'_8 g7'_9))))] H := hP
  have hD : va_D A [(hm, .inr (1, [.ref a, .ref b, .ref qa, .ref qu, .ref qb, .ref qh, .ref qm])), (qu, .inl (cJ, 8, .inr (.inl (f8 u0 u1 u2 u3 u4 u5 u6 u7)))), (qb, .inl (cJ, 8, .inr (.inl (f8 u0 u1 (mixL u0 u2 t) (mixL u1 u3 t) (mx2 u0 u2 u4 t) (mx2 u1 u3 u5 t) (mx3 u0 u2 u4 u6 t) (mx3 u1 u3 u5 u7 t))))), (qh, .inl (cJ, 8, .inr (.inl (f8 (mx3 u0 u2 u4 u6 t) (mx3 u1 u3 u5 u7 t) (mx2 u2 u4 u6 t) (mx2 u3 u5 u7 t) (mixL u4 u6 t) (mixL u5 u7 t) u6 u7)))), (qm, .inl (cJ, 8, .inr (.inl (f8 g0'_2 g1'_3 g2'_4 g3'_5 g4'_6 g5'_7 g6'_8 g7'_9))))] := hD
  refine lv_iinc (v := 2) (lv' := [(5, .int 2), (0, .ref hm), (1, .long z), (3, .long t)]) hx hb d_M_cut_29 hl (k := 0) rfl (by first | exact nI_add _ 1 | rfl | decide) (by decide) rfl (fun ls hl => ?_)
  refine lv_goto (tgt := 8) hx hb d_M_cut_32 (by decide) ?_
  refine lv_iload hx hb d_M_cut_8 (lv_at hl 0 rfl) ?_
  refine lv_bipush (v := 8) hx hb d_M_cut_10 (by decide) ?_
  refine bn_ge (a1 := 2) (b1 := 8) (tgt := 35) hx hb (by omega) (by omega) d_M_cut_12 (by decide) (fun c_12 => ?_) (fun c_12 => ?_)
  · exact absurd c_12 (by decide)
  refine lv_aload_n hx hb d_M_cut_15 rfl (lv_at hl 1 rfl) ?_
  refine va_get (D := D) (ci := 1) (v := .ref qu) (C := R_M) (T := T_M) (N := 7) hx hb hts (ui_M _) hown hK hP 0 rfl rfl 3 (by decide) (hts _ (gwc gw_512)) (fun _ h9 => h9) rfl d_M_cut_16 ?_
  refine lv_iload hx hb d_M_cut_19 (lv_at hl 0 rfl) ?_
  refine lv_aload_n hx hb d_M_cut_21 rfl (lv_at hl 1 rfl) ?_
  refine va_get (D := D) (ci := 1) (v := .ref qb) (C := R_M) (T := T_M) (N := 7) hx hb hts (ui_M _) hown hK hP 0 rfl rfl 4 (by decide) (hts _ (gwc gw_513)) (fun _ h9 => h9) rfl d_M_cut_22 ?_
  refine lv_iload hx hb d_M_cut_25 (lv_at hl 0 rfl) ?_
  refine ld_l hx hb hK hP 2 2 rfl rfl 2 (by omega) (by omega) d_M_cut_27 ?_
  refine tp_l (mixL u0 u2 t) (rfl) ?_
  refine sf_l (f8 u0 u1 (mixL u0 u2 t) u3 u4 u5 u6 u7) hx hb hK hP hD hS 1 2 rfl rfl 2 f8_2 (by decide) (by decide) d_M_cut_28 (fun H locs hP hD hS => ?_)
  have hP : va_P D cl [(hm, .inr (1, [.ref a, .ref b, .ref qa, .ref qu, .ref qb, .ref qh, .ref qm])), (qu, .inl (cJ, 8, .inr (.inl (f8 u0 u1 (mixL u0 u2 t) u3 u4 u5 u6 u7)))), (qb, .inl (cJ, 8, .inr (.inl (f8 u0 u1 (mixL u0 u2 t) (mixL u1 u3 t) (mx2 u0 u2 u4 t) (mx2 u1 u3 u5 t) (mx3 u0 u2 u4 u6 t) (mx3 u1 u3 u5 u7 t))))), (qh, .inl (cJ, 8, .inr (.inl (f8 (mx3 u0 u2 u4 u6 t) (mx3 u1 u3 u5 u7 t) (mx2 u2 u4 u6 t) (mx2 u3 u5 u7 t) (mixL u4 u6 t) (mixL u5 u7 t) u6 u7)))), (qm, .inl (cJ, 8, .inr (.inl (f8 g0'_2 g1'_3 g2'_4 g3'_5 g4'_6 g5'_7 g6'_8 g7'_9))))] H := hP
  have hD : va_D A [(hm, .inr (1, [.ref a, .ref b, .ref qa, .ref qu, .ref qb, .ref qh, .ref qm])), (qu, .inl (cJ, 8, .inr (.inl (f8 u0 u1 (mixL u0 u2 t) u3 u4 u5 u6 u7)))), (qb, .inl (cJ, 8, .inr (.inl (f8 u0 u1 (mixL u0 u2 t) (mixL u1 u3 t) (mx2 u0 u2 u4 t) (mx2 u1 u3 u5 t) (mx3 u0 u2 u4 u6 t) (mx3 u1 u3 u5 u7 t))))), (qh, .inl (cJ, 8, .inr (.inl (f8 (mx3 u0 u2 u4 u6 t) (mx3 u1 u3 u5 u7 t) (mx2 u2 u4 u6 t) (mx2 u3 u5 u7 t) (mixL u4 u6 t) (mixL u5 u7 t) u6 u7)))), (qm, .inl (cJ, 8, .inr (.inl (f8 g0'_2 g1'_3 g2'_4 g3'_5 g4'_6 g5'_7 g6'_8 g7'_9))))] := hD
  refine lv_iinc (v := 3) (lv' := [(5, .int 3), (0, .ref hm), (1, .long z), (3, .long t)]) hx hb d_M_cut_29 hl (k := 0) rfl (by first | exact nI_add _ 1 | rfl | decide) (by decide) rfl (fun ls hl => ?_)
  refine lv_goto (tgt := 8) hx hb d_M_cut_32 (by decide) ?_
  refine lv_iload hx hb d_M_cut_8 (lv_at hl 0 rfl) ?_
  refine lv_bipush (v := 8) hx hb d_M_cut_10 (by decide) ?_
  refine bn_ge (a1 := 3) (b1 := 8) (tgt := 35) hx hb (by omega) (by omega) d_M_cut_12 (by decide) (fun c_13 => ?_) (fun c_13 => ?_)
  · exact absurd c_13 (by decide)
  refine lv_aload_n hx hb d_M_cut_15 rfl (lv_at hl 1 rfl) ?_
  refine va_get (D := D) (ci := 1) (v := .ref qu) (C := R_M) (T := T_M) (N := 7) hx hb hts (ui_M _) hown hK hP 0 rfl rfl 3 (by decide) (hts _ (gwc gw_512)) (fun _ h9 => h9) rfl d_M_cut_16 ?_
  refine lv_iload hx hb d_M_cut_19 (lv_at hl 0 rfl) ?_
  refine lv_aload_n hx hb d_M_cut_21 rfl (lv_at hl 1 rfl) ?_
  refine va_get (D := D) (ci := 1) (v := .ref qb) (C := R_M) (T := T_M) (N := 7) hx hb hts (ui_M _) hown hK hP 0 rfl rfl 4 (by decide) (hts _ (gwc gw_513)) (fun _ h9 => h9) rfl d_M_cut_22 ?_
  refine lv_iload hx hb d_M_cut_25 (lv_at hl 0 rfl) ?_
  refine ld_l hx hb hK hP 2 2 rfl rfl 3 (by omega) (by omega) d_M_cut_27 ?_
  refine tp_l (mixL u1 u3 t) (rfl) ?_
  refine sf_l (f8 u0 u1 (mixL u0 u2 t) (mixL u1 u3 t) u4 u5 u6 u7) hx hb hK hP hD hS 1 2 rfl rfl 3 f8_3 (by decide) (by decide) d_M_cut_28 (fun H locs hP hD hS => ?_)
  have hP : va_P D cl [(hm, .inr (1, [.ref a, .ref b, .ref qa, .ref qu, .ref qb, .ref qh, .ref qm])), (qu, .inl (cJ, 8, .inr (.inl (f8 u0 u1 (mixL u0 u2 t) (mixL u1 u3 t) u4 u5 u6 u7)))), (qb, .inl (cJ, 8, .inr (.inl (f8 u0 u1 (mixL u0 u2 t) (mixL u1 u3 t) (mx2 u0 u2 u4 t) (mx2 u1 u3 u5 t) (mx3 u0 u2 u4 u6 t) (mx3 u1 u3 u5 u7 t))))), (qh, .inl (cJ, 8, .inr (.inl (f8 (mx3 u0 u2 u4 u6 t) (mx3 u1 u3 u5 u7 t) (mx2 u2 u4 u6 t) (mx2 u3 u5 u7 t) (mixL u4 u6 t) (mixL u5 u7 t) u6 u7)))), (qm, .inl (cJ, 8, .inr (.inl (f8 g0'_2 g1'_3 g2'_4 g3'_5 g4'_6 g5'_7 g6'_8 g7'_9))))] H := hP
  have hD : va_D A [(hm, .inr (1, [.ref a, .ref b, .ref qa, .ref qu, .ref qb, .ref qh, .ref qm])), (qu, .inl (cJ, 8, .inr (.inl (f8 u0 u1 (mixL u0 u2 t) (mixL u1 u3 t) u4 u5 u6 u7)))), (qb, .inl (cJ, 8, .inr (.inl (f8 u0 u1 (mixL u0 u2 t) (mixL u1 u3 t) (mx2 u0 u2 u4 t) (mx2 u1 u3 u5 t) (mx3 u0 u2 u4 u6 t) (mx3 u1 u3 u5 u7 t))))), (qh, .inl (cJ, 8, .inr (.inl (f8 (mx3 u0 u2 u4 u6 t) (mx3 u1 u3 u5 u7 t) (mx2 u2 u4 u6 t) (mx2 u3 u5 u7 t) (mixL u4 u6 t) (mixL u5 u7 t) u6 u7)))), (qm, .inl (cJ, 8, .inr (.inl (f8 g0'_2 g1'_3 g2'_4 g3'_5 g4'_6 g5'_7 g6'_8 g7'_9))))] := hD
  refine lv_iinc (v := 4) (lv' := [(5, .int 4), (0, .ref hm), (1, .long z), (3, .long t)]) hx hb d_M_cut_29 hl (k := 0) rfl (by first | exact nI_add _ 1 | rfl | decide) (by decide) rfl (fun ls hl => ?_)
  refine lv_goto (tgt := 8) hx hb d_M_cut_32 (by decide) ?_
  refine lv_iload hx hb d_M_cut_8 (lv_at hl 0 rfl) ?_
  refine lv_bipush (v := 8) hx hb d_M_cut_10 (by decide) ?_
  refine bn_ge (a1 := 4) (b1 := 8) (tgt := 35) hx hb (by omega) (by omega) d_M_cut_12 (by decide) (fun c_14 => ?_) (fun c_14 => ?_)
  · exact absurd c_14 (by decide)
  refine lv_aload_n hx hb d_M_cut_15 rfl (lv_at hl 1 rfl) ?_
  refine va_get (D := D) (ci := 1) (v := .ref qu) (C := R_M) (T := T_M) (N := 7) hx hb hts (ui_M _) hown hK hP 0 rfl rfl 3 (by decide) (hts _ (gwc gw_512)) (fun _ h9 => h9) rfl d_M_cut_16 ?_
  refine lv_iload hx hb d_M_cut_19 (lv_at hl 0 rfl) ?_
  refine lv_aload_n hx hb d_M_cut_21 rfl (lv_at hl 1 rfl) ?_
  refine va_get (D := D) (ci := 1) (v := .ref qb) (C := R_M) (T := T_M) (N := 7) hx hb hts (ui_M _) hown hK hP 0 rfl rfl 4 (by decide) (hts _ (gwc gw_513)) (fun _ h9 => h9) rfl d_M_cut_22 ?_
  refine lv_iload hx hb d_M_cut_25 (lv_at hl 0 rfl) ?_
  refine ld_l hx hb hK hP 2 2 rfl rfl 4 (by omega) (by omega) d_M_cut_27 ?_
  refine tp_l (mx2 u0 u2 u4 t) (rfl) ?_
  refine sf_l (f8 u0 u1 (mixL u0 u2 t) (mixL u1 u3 t) (mx2 u0 u2 u4 t) u5 u6 u7) hx hb hK hP hD hS 1 2 rfl rfl 4 f8_4 (by decide) (by decide) d_M_cut_28 (fun H locs hP hD hS => ?_)
  have hP : va_P D cl [(hm, .inr (1, [.ref a, .ref b, .ref qa, .ref qu, .ref qb, .ref qh, .ref qm])), (qu, .inl (cJ, 8, .inr (.inl (f8 u0 u1 (mixL u0 u2 t) (mixL u1 u3 t) (mx2 u0 u2 u4 t) u5 u6 u7)))), (qb, .inl (cJ, 8, .inr (.inl (f8 u0 u1 (mixL u0 u2 t) (mixL u1 u3 t) (mx2 u0 u2 u4 t) (mx2 u1 u3 u5 t) (mx3 u0 u2 u4 u6 t) (mx3 u1 u3 u5 u7 t))))), (qh, .inl (cJ, 8, .inr (.inl (f8 (mx3 u0 u2 u4 u6 t) (mx3 u1 u3 u5 u7 t) (mx2 u2 u4 u6 t) (mx2 u3 u5 u7 t) (mixL u4 u6 t) (mixL u5 u7 t) u6 u7)))), (qm, .inl (cJ, 8, .inr (.inl (f8 g0'_2 g1'_3 g2'_4 g3'_5 g4'_6 g5'_7 g6'_8 g7'_9))))] H := hP
  have hD : va_D A [(hm, .inr (1, [.ref a, .ref b, .ref qa, .ref qu, .ref qb, .ref qh, .ref qm])), (qu, .inl (cJ, 8, .inr (.inl (f8 u0 u1 (mixL u0 u2 t) (mixL u1 u3 t) (mx2 u0 u2 u4 t) u5 u6 u7)))), (qb, .inl (cJ, 8, .inr (.inl (f8 u0 u1 (mixL u0 u2 t) (mixL u1 u3 t) (mx2 u0 u2 u4 t) (mx2 u1 u3 u5 t) (mx3 u0 u2 u4 u6 t) (mx3 u1 u3 u5 u7 t))))), (qh, .inl (cJ, 8, .inr (.inl (f8 (mx3 u0 u2 u4 u6 t) (mx3 u1 u3 u5 u7 t) (mx2 u2 u4 u6 t) (mx2 u3 u5 u7 t) (mixL u4 u6 t) (mixL u5 u7 t) u6 u7)))), (qm, .inl (cJ, 8, .inr (.inl (f8 g0'_2 g1'_3 g2'_4 g3'_5 g4'_6 g5'_7 g6'_8 g7'_9))))] := hD
  refine lv_iinc (v := 5) (lv' := [(5, .int 5), (0, .ref hm), (1, .long z), (3, .long t)]) hx hb d_M_cut_29 hl (k := 0) rfl (by first | exact nI_add _ 1 | rfl | decide) (by decide) rfl (fun ls hl => ?_)
  refine lv_goto (tgt := 8) hx hb d_M_cut_32 (by decide) ?_
  refine lv_iload hx hb d_M_cut_8 (lv_at hl 0 rfl) ?_
  refine lv_bipush (v := 8) hx hb d_M_cut_10 (by decide) ?_
  refine bn_ge (a1 := 5) (b1 := 8) (tgt := 35) hx hb (by omega) (by omega) d_M_cut_12 (by decide) (fun c_15 => ?_) (fun c_15 => ?_)
  · exact absurd c_15 (by decide)
  refine lv_aload_n hx hb d_M_cut_15 rfl (lv_at hl 1 rfl) ?_
  refine va_get (D := D) (ci := 1) (v := .ref qu) (C := R_M) (T := T_M) (N := 7) hx hb hts (ui_M _) hown hK hP 0 rfl rfl 3 (by decide) (hts _ (gwc gw_512)) (fun _ h9 => h9) rfl d_M_cut_16 ?_
  refine lv_iload hx hb d_M_cut_19 (lv_at hl 0 rfl) ?_
  refine lv_aload_n hx hb d_M_cut_21 rfl (lv_at hl 1 rfl) ?_
  refine va_get (D := D) (ci := 1) (v := .ref qb) (C := R_M) (T := T_M) (N := 7) hx hb hts (ui_M _) hown hK hP 0 rfl rfl 4 (by decide) (hts _ (gwc gw_513)) (fun _ h9 => h9) rfl d_M_cut_22 ?_
  refine lv_iload hx hb d_M_cut_25 (lv_at hl 0 rfl) ?_
  refine ld_l hx hb hK hP 2 2 rfl rfl 5 (by omega) (by omega) d_M_cut_27 ?_
  refine tp_l (mx2 u1 u3 u5 t) (rfl) ?_
  refine sf_l (f8 u0 u1 (mixL u0 u2 t) (mixL u1 u3 t) (mx2 u0 u2 u4 t) (mx2 u1 u3 u5 t) u6 u7) hx hb hK hP hD hS 1 2 rfl rfl 5 f8_5 (by decide) (by decide) d_M_cut_28 (fun H locs hP hD hS => ?_)
  have hP : va_P D cl [(hm, .inr (1, [.ref a, .ref b, .ref qa, .ref qu, .ref qb, .ref qh, .ref qm])), (qu, .inl (cJ, 8, .inr (.inl (f8 u0 u1 (mixL u0 u2 t) (mixL u1 u3 t) (mx2 u0 u2 u4 t) (mx2 u1 u3 u5 t) u6 u7)))), (qb, .inl (cJ, 8, .inr (.inl (f8 u0 u1 (mixL u0 u2 t) (mixL u1 u3 t) (mx2 u0 u2 u4 t) (mx2 u1 u3 u5 t) (mx3 u0 u2 u4 u6 t) (mx3 u1 u3 u5 u7 t))))), (qh, .inl (cJ, 8, .inr (.inl (f8 (mx3 u0 u2 u4 u6 t) (mx3 u1 u3 u5 u7 t) (mx2 u2 u4 u6 t) (mx2 u3 u5 u7 t) (mixL u4 u6 t) (mixL u5 u7 t) u6 u7)))), (qm, .inl (cJ, 8, .inr (.inl (f8 g0'_2 g1'_3 g2'_4 g3'_5 g4'_6 g5'_7 g6'_8 g7'_9))))] H := hP
  have hD : va_D A [(hm, .inr (1, [.ref a, .ref b, .ref qa, .ref qu, .ref qb, .ref qh, .ref qm])), (qu, .inl (cJ, 8, .inr (.inl (f8 u0 u1 (mixL u0 u2 t) (mixL u1 u3 t) (mx2 u0 u2 u4 t) (mx2 u1 u3 u5 t) u6 u7)))), (qb, .inl (cJ, 8, .inr (.inl (f8 u0 u1 (mixL u0 u2 t) (mixL u1 u3 t) (mx2 u0 u2 u4 t) (mx2 u1 u3 u5 t) (mx3 u0 u2 u4 u6 t) (mx3 u1 u3 u5 u7 t))))), (qh, .inl (cJ, 8, .inr (.inl (f8 (mx3 u0 u2 u4 u6 t) (mx3 u1 u3 u5 u7 t) (mx2 u2 u4 u6 t) (mx2 u3 u5 u7 t) (mixL u4 u6 t) (mixL u5 u7 t) u6 u7)))), (qm, .inl (cJ, 8, .inr (.inl (f8 g0'_2 g1'_3 g2'_4 g3'_5 g4'_6 g5'_7 g6'_8 g7'_9))))] := hD
  refine lv_iinc (v := 6) (lv' := [(5, .int 6), (0, .ref hm), (1, .long z), (3, .long t)]) hx hb d_M_cut_29 hl (k := 0) rfl (by first | exact nI_add _ 1 | rfl | decide) (by decide) rfl (fun ls hl => ?_)
  refine lv_goto (tgt := 8) hx hb d_M_cut_32 (by decide) ?_
  refine lv_iload hx hb d_M_cut_8 (lv_at hl 0 rfl) ?_
  refine lv_bipush (v := 8) hx hb d_M_cut_10 (by decide) ?_
  refine bn_ge (a1 := 6) (b1 := 8) (tgt := 35) hx hb (by omega) (by omega) d_M_cut_12 (by decide) (fun c_16 => ?_) (fun c_16 => ?_)
  · exact absurd c_16 (by decide)
  refine lv_aload_n hx hb d_M_cut_15 rfl (lv_at hl 1 rfl) ?_
  refine va_get (D := D) (ci := 1) (v := .ref qu) (C := R_M) (T := T_M) (N := 7) hx hb hts (ui_M _) hown hK hP 0 rfl rfl 3 (by decide) (hts _ (gwc gw_512)) (fun _ h9 => h9) rfl d_M_cut_16 ?_
  refine lv_iload hx hb d_M_cut_19 (lv_at hl 0 rfl) ?_
  refine lv_aload_n hx hb d_M_cut_21 rfl (lv_at hl 1 rfl) ?_
  refine va_get (D := D) (ci := 1) (v := .ref qb) (C := R_M) (T := T_M) (N := 7) hx hb hts (ui_M _) hown hK hP 0 rfl rfl 4 (by decide) (hts _ (gwc gw_513)) (fun _ h9 => h9) rfl d_M_cut_22 ?_
  refine lv_iload hx hb d_M_cut_25 (lv_at hl 0 rfl) ?_
  refine ld_l hx hb hK hP 2 2 rfl rfl 6 (by omega) (by omega) d_M_cut_27 ?_
  refine tp_l (mx3 u0 u2 u4 u6 t) (rfl) ?_
  refine sf_l (f8 u0 u1 (mixL u0 u2 t) (mixL u1 u3 t) (mx2 u0 u2 u4 t) (mx2 u1 u3 u5 t) (mx3 u0 u2 u4 u6 t) u7) hx hb hK hP hD hS 1 2 rfl rfl 6 f8_6 (by decide) (by decide) d_M_cut_28 (fun H locs hP hD hS => ?_)
  have hP : va_P D cl [(hm, .inr (1, [.ref a, .ref b, .ref qa, .ref qu, .ref qb, .ref qh, .ref qm])), (qu, .inl (cJ, 8, .inr (.inl (f8 u0 u1 (mixL u0 u2 t) (mixL u1 u3 t) (mx2 u0 u2 u4 t) (mx2 u1 u3 u5 t) (mx3 u0 u2 u4 u6 t) u7)))), (qb, .inl (cJ, 8, .inr (.inl (f8 u0 u1 (mixL u0 u2 t) (mixL u1 u3 t) (mx2 u0 u2 u4 t) (mx2 u1 u3 u5 t) (mx3 u0 u2 u4 u6 t) (mx3 u1 u3 u5 u7 t))))), (qh, .inl (cJ, 8, .inr (.inl (f8 (mx3 u0 u2 u4 u6 t) (mx3 u1 u3 u5 u7 t) (mx2 u2 u4 u6 t) (mx2 u3 u5 u7 t) (mixL u4 u6 t) (mixL u5 u7 t) u6 u7)))), (qm, .inl (cJ, 8, .inr (.inl (f8 g0'_2 g1'_3 g2'_4 g3'_5 g4'_6 g5'_7 g6'_8 g7'_9))))] H := hP
  have hD : va_D A [(hm, .inr (1, [.ref a, .ref b, .ref qa, .ref qu, .ref qb, .ref qh, .ref qm])), (qu, .inl (cJ, 8, .inr (.inl (f8 u0 u1 (mixL u0 u2 t) (mixL u1 u3 t) (mx2 u0 u2 u4 t) (mx2 u1 u3 u5 t) (mx3 u0 u2 u4 u6 t) u7)))), (qb, .inl (cJ, 8, .inr (.inl (f8 u0 u1 (mixL u0 u2 t) (mixL u1 u3 t) (mx2 u0 u2 u4 t) (mx2 u1 u3 u5 t) (mx3 u0 u2 u4 u6 t) (mx3 u1 u3 u5 u7 t))))), (qh, .inl (cJ, 8, .inr (.inl (f8 (mx3 u0 u2 u4 u6 t) (mx3 u1 u3 u5 u7 t) (mx2 u2 u4 u6 t) (mx2 u3 u5 u7 t) (mixL u4 u6 t) (mixL u5 u7 t) u6 u7)))), (qm, .inl (cJ, 8, .inr (.inl (f8 g0'_2 g1'_3 g2'_4 g3'_5 g4'_6 g5'_7 g6'_8 g7'_9))))] := hD
  refine lv_iinc (v := 7) (lv' := [(5, .int 7), (0, .ref hm), (1, .long z), (3, .long t)]) hx hb d_M_cut_29 hl (k := 0) rfl (by first | exact nI_add _ 1 | rfl | decide) (by decide) rfl (fun ls hl => ?_)
  refine lv_goto (tgt := 8) hx hb d_M_cut_32 (by decide) ?_
  refine lv_iload hx hb d_M_cut_8 (lv_at hl 0 rfl) ?_
  refine lv_bipush (v := 8) hx hb d_M_cut_10 (by decide) ?_
  refine bn_ge (a1 := 7) (b1 := 8) (tgt := 35) hx hb (by omega) (by omega) d_M_cut_12 (by decide) (fun c_17 => ?_) (fun c_17 => ?_)
  · exact absurd c_17 (by decide)
  refine lv_aload_n hx hb d_M_cut_15 rfl (lv_at hl 1 rfl) ?_
  refine va_get (D := D) (ci := 1) (v := .ref qu) (C := R_M) (T := T_M) (N := 7) hx hb hts (ui_M _) hown hK hP 0 rfl rfl 3 (by decide) (hts _ (gwc gw_512)) (fun _ h9 => h9) rfl d_M_cut_16 ?_
  refine lv_iload hx hb d_M_cut_19 (lv_at hl 0 rfl) ?_
  refine lv_aload_n hx hb d_M_cut_21 rfl (lv_at hl 1 rfl) ?_
  refine va_get (D := D) (ci := 1) (v := .ref qb) (C := R_M) (T := T_M) (N := 7) hx hb hts (ui_M _) hown hK hP 0 rfl rfl 4 (by decide) (hts _ (gwc gw_513)) (fun _ h9 => h9) rfl d_M_cut_22 ?_
  refine lv_iload hx hb d_M_cut_25 (lv_at hl 0 rfl) ?_
  refine ld_l hx hb hK hP 2 2 rfl rfl 7 (by omega) (by omega) d_M_cut_27 ?_
  refine tp_l (mx3 u1 u3 u5 u7 t) (rfl) ?_
  refine sf_l (f8 u0 u1 (mixL u0 u2 t) (mixL u1 u3 t) (mx2 u0 u2 u4 t) (mx2 u1 u3 u5 t) (mx3 u0 u2 u4 u6 t) (mx3 u1 u3 u5 u7 t)) hx hb hK hP hD hS 1 2 rfl rfl 7 f8_7 (by decide) (by decide) d_M_cut_28 (fun H locs hP hD hS => ?_)
  have hP : va_P D cl [(hm, .inr (1, [.ref a, .ref b, .ref qa, .ref qu, .ref qb, .ref qh, .ref qm])), (qu, .inl (cJ, 8, .inr (.inl (f8 u0 u1 (mixL u0 u2 t) (mixL u1 u3 t) (mx2 u0 u2 u4 t) (mx2 u1 u3 u5 t) (mx3 u0 u2 u4 u6 t) (mx3 u1 u3 u5 u7 t))))), (qb, .inl (cJ, 8, .inr (.inl (f8 u0 u1 (mixL u0 u2 t) (mixL u1 u3 t) (mx2 u0 u2 u4 t) (mx2 u1 u3 u5 t) (mx3 u0 u2 u4 u6 t) (mx3 u1 u3 u5 u7 t))))), (qh, .inl (cJ, 8, .inr (.inl (f8 (mx3 u0 u2 u4 u6 t) (mx3 u1 u3 u5 u7 t) (mx2 u2 u4 u6 t) (mx2 u3 u5 u7 t) (mixL u4 u6 t) (mixL u5 u7 t) u6 u7)))), (qm, .inl (cJ, 8, .inr (.inl (f8 g0'_2 g1'_3 g2'_4 g3'_5 g4'_6 g5'_7 g6'_8 g7'_9))))] H := hP
  have hD : va_D A [(hm, .inr (1, [.ref a, .ref b, .ref qa, .ref qu, .ref qb, .ref qh, .ref qm])), (qu, .inl (cJ, 8, .inr (.inl (f8 u0 u1 (mixL u0 u2 t) (mixL u1 u3 t) (mx2 u0 u2 u4 t) (mx2 u1 u3 u5 t) (mx3 u0 u2 u4 u6 t) (mx3 u1 u3 u5 u7 t))))), (qb, .inl (cJ, 8, .inr (.inl (f8 u0 u1 (mixL u0 u2 t) (mixL u1 u3 t) (mx2 u0 u2 u4 t) (mx2 u1 u3 u5 t) (mx3 u0 u2 u4 u6 t) (mx3 u1 u3 u5 u7 t))))), (qh, .inl (cJ, 8, .inr (.inl (f8 (mx3 u0 u2 u4 u6 t) (mx3 u1 u3 u5 u7 t) (mx2 u2 u4 u6 t) (mx2 u3 u5 u7 t) (mixL u4 u6 t) (mixL u5 u7 t) u6 u7)))), (qm, .inl (cJ, 8, .inr (.inl (f8 g0'_2 g1'_3 g2'_4 g3'_5 g4'_6 g5'_7 g6'_8 g7'_9))))] := hD
  refine lv_iinc (v := 8) (lv' := [(5, .int 8), (0, .ref hm), (1, .long z), (3, .long t)]) hx hb d_M_cut_29 hl (k := 0) rfl (by first | exact nI_add _ 1 | rfl | decide) (by decide) rfl (fun ls hl => ?_)
  refine lv_goto (tgt := 8) hx hb d_M_cut_32 (by decide) ?_
  refine lv_iload hx hb d_M_cut_8 (lv_at hl 0 rfl) ?_
  refine lv_bipush (v := 8) hx hb d_M_cut_10 (by decide) ?_
  refine bn_ge (a1 := 8) (b1 := 8) (tgt := 35) hx hb (by omega) (by omega) d_M_cut_12 (by decide) (fun c_18 => ?_) (fun c_18 => ?_)
  rotate_left
  · exact absurd c_18 (by decide)
  refine lv_lload_n hx hb d_M_cut_35 rfl (lv_at hl 2 rfl) ?_
  refine lv_lconst (v := 0) hx hb d_M_cut_36 (by decide) ?_
  refine W.lcmp hx hb d_M_cut_37 ?_
  refine lc_ne (tgt := 42) hx hb d_M_cut_38 (by decide) (fun c_19 => ?_) (fun c_19 => ?_)
  · skip
    refine lv_aload_n hx hb d_M_cut_42 rfl (lv_at hl 1 rfl) ?_
    refine lv_ldc2 (v := 2) hx hb hown (hts _ (gwc gw_654)) d_M_cut_43 ?_
    refine lv_lload_n hx hb d_M_cut_46 rfl (lv_at hl 2 rfl) ?_
    refine lv_lmul hx hb d_M_cut_47 ?_
    refine lv_ldc2 (v := 65536) hx hb hown (hts _ (gwc gw_635)) d_M_cut_48 ?_
    refine lv_lmul hx hb d_M_cut_51 ?_
    refine lv_lload_n hx hb d_M_cut_52 rfl (lv_at hl 3 rfl) ?_
    refine lv_ladd hx hb d_M_cut_53 ?_
    refine lv_ldc2 (v := 2) hx hb hown (hts _ (gwc gw_654)) d_M_cut_54 ?_
    refine lv_lload_n hx hb d_M_cut_57 rfl (lv_at hl 3 rfl) ?_
    refine lv_lmul hx hb d_M_cut_58 ?_
    refine ct_callS (av := [.long (((2 * z) * 65536) + t), .long (2 * t)]) (rest := [.ref hm]) (wr := [(hm, .inr (1, [.ref a, .ref b, .ref qa, .ref qu, .ref qb, .ref qh, .ref qm])), (qu, .inl (cJ, 8, .inr (.inl (f8 u0 u1 (mixL u0 u2 t) (mixL u1 u3 t) (mx2 u0 u2 u4 t) (mx2 u1 u3 u5 t) (mx3 u0 u2 u4 u6 t) (mx3 u1 u3 u5 u7 t))))), (qb, .inl (cJ, 8, .inr (.inl (f8 u0 u1 (mixL u0 u2 t) (mixL u1 u3 t) (mx2 u0 u2 u4 t) (mx2 u1 u3 u5 t) (mx3 u0 u2 u4 u6 t) (mx3 u1 u3 u5 u7 t))))), (qh, .inl (cJ, 8, .inr (.inl (f8 (mx3 u0 u2 u4 u6 t) (mx3 u1 u3 u5 u7 t) (mx2 u2 u4 u6 t) (mx2 u3 u5 u7 t) (mixL u4 u6 t) (mixL u5 u7 t) u6 u7)))), (qm, .inl (cJ, 8, .inr (.inl (f8 g0'_2 g1'_3 g2'_4 g3'_5 g4'_6 g5'_7 g6'_8 g7'_9))))]) (n := 2) (c_floorDiv l D cI cB cJ qQ  (((2 * z) * 65536) + t) (2 * t) (ht)) hx hb hml hown hts (amb_ok qQ) hK hP hD hS hA hM (gi_S gw_616 gw_265 gw_35 gw_266) rfl (by decide +kernel) ⟨by omega, by omega⟩ [] [0, 1, 2, 3, 4] rfl rfl rfl rfl (by decide) rfl hl.1 rfl (Nat.le_of_ble_eq_true rfl) d_M_cut_59 ⟨by omega, by omega⟩ (fun u_20 H locs hok hP hD hS => ?_)
    have hP : va_P D cl [(hm, .inr (1, [.ref a, .ref b, .ref qa, .ref qu, .ref qb, .ref qh, .ref qm])), (qu, .inl (cJ, 8, .inr (.inl (f8 u0 u1 (mixL u0 u2 t) (mixL u1 u3 t) (mx2 u0 u2 u4 t) (mx2 u1 u3 u5 t) (mx3 u0 u2 u4 u6 t) (mx3 u1 u3 u5 u7 t))))), (qb, .inl (cJ, 8, .inr (.inl (f8 u0 u1 (mixL u0 u2 t) (mixL u1 u3 t) (mx2 u0 u2 u4 t) (mx2 u1 u3 u5 t) (mx3 u0 u2 u4 u6 t) (mx3 u1 u3 u5 u7 t))))), (qh, .inl (cJ, 8, .inr (.inl (f8 (mx3 u0 u2 u4 u6 t) (mx3 u1 u3 u5 u7 t) (mx2 u2 u4 u6 t) (mx2 u3 u5 u7 t) (mixL u4 u6 t) (mixL u5 u7 t) u6 u7)))), (qm, .inl (cJ, 8, .inr (.inl (f8 g0'_2 g1'_3 g2'_4 g3'_5 g4'_6 g5'_7 g6'_8 g7'_9))))] H := hP
    have hD : va_D A [(hm, .inr (1, [.ref a, .ref b, .ref qa, .ref qu, .ref qb, .ref qh, .ref qm])), (qu, .inl (cJ, 8, .inr (.inl (f8 u0 u1 (mixL u0 u2 t) (mixL u1 u3 t) (mx2 u0 u2 u4 t) (mx2 u1 u3 u5 t) (mx3 u0 u2 u4 u6 t) (mx3 u1 u3 u5 u7 t))))), (qb, .inl (cJ, 8, .inr (.inl (f8 u0 u1 (mixL u0 u2 t) (mixL u1 u3 t) (mx2 u0 u2 u4 t) (mx2 u1 u3 u5 t) (mx3 u0 u2 u4 u6 t) (mx3 u1 u3 u5 u7 t))))), (qh, .inl (cJ, 8, .inr (.inl (f8 (mx3 u0 u2 u4 u6 t) (mx3 u1 u3 u5 u7 t) (mx2 u2 u4 u6 t) (mx2 u3 u5 u7 t) (mixL u4 u6 t) (mixL u5 u7 t) u6 u7)))), (qm, .inl (cJ, 8, .inr (.inl (f8 g0'_2 g1'_3 g2'_4 g3'_5 g4'_6 g5'_7 g6'_8 g7'_9))))] := hD
    refine W.eq (g2 := F0 m 62 ls [.long (fdv (((2 * z) * 65536) + t) (2 * t)), .ref hm]) rfl ?_
    refine ct_callV (ci := 1) (q0 := 0) (As := [.long (fdv (((2 * z) * 65536) + t) (2 * t))]) (rest := []) (wr := []) (n := 1) (c_M_part l D cI cB cJ qQ  hm a b qa qu qb qh qm u0 u1 (mixL u0 u2 t) (mixL u1 u3 t) (mx2 u0 u2 u4 t) (mx2 u1 u3 u5 t) (mx3 u0 u2 u4 u6 t) (mx3 u1 u3 u5 u7 t) u0 u1 (mixL u0 u2 t) (mixL u1 u3 t) (mx2 u0 u2 u4 t) (mx2 u1 u3 u5 t) (mx3 u0 u2 u4 u6 t) (mx3 u1 u3 u5 u7 t) (mx3 u0 u2 u4 u6 t) (mx3 u1 u3 u5 u7 t) (mx2 u2 u4 u6 t) (mx2 u3 u5 u7 t) (mixL u4 u6 t) (mixL u5 u7 t) u6 u7 g0'_2 g1'_3 g2'_4 g3'_5 g4'_6 g5'_7 g6'_8 g7'_9 (fdv (((2 * z) * 65536) + t) (2 * t)) ) hx hb hml hown hts (amb_ok qQ) hK hP hD hS hA hM (gi_V gw_646 gw_648 gw_22 gw_33 gw_649) rfl (by decide +kernel) ⟨by omega, by omega⟩ [0, 1, 2, 3, 4] [] rfl rfl rfl rfl (by decide) rfl rfl rfl hl.1 rfl (Nat.le_of_ble_eq_true rfl) d_M_cut_62 ⟨by omega, by omega⟩ (fun u_21 H locs hok hP hD hS => ?_)
    obtain ⟨g0'_22, g1'_23, g2'_24, g3'_25, g4'_26, g5'_27, g6'_28, g7'_29⟩ := u_21
    have hP : va_P D cl [(hm, .inr (1, [.ref a, .ref b, .ref qa, .ref qu, .ref qb, .ref qh, .ref qm])), (qu, .inl (cJ, 8, .inr (.inl (f8 u0 u1 (mixL u0 u2 t) (mixL u1 u3 t) (mx2 u0 u2 u4 t) (mx2 u1 u3 u5 t) (mx3 u0 u2 u4 u6 t) (mx3 u1 u3 u5 u7 t))))), (qb, .inl (cJ, 8, .inr (.inl (f8 u0 u1 (mixL u0 (mixL u0 u2 t) (fdv (((2 * z) * 65536) + t) (2 * t))) (mixL u1 (mixL u1 u3 t) (fdv (((2 * z) * 65536) + t) (2 * t))) (mx2 u0 (mixL u0 u2 t) (mx2 u0 u2 u4 t) (fdv (((2 * z) * 65536) + t) (2 * t))) (mx2 u1 (mixL u1 u3 t) (mx2 u1 u3 u5 t) (fdv (((2 * z) * 65536) + t) (2 * t))) (mx3 u0 (mixL u0 u2 t) (mx2 u0 u2 u4 t) (mx3 u0 u2 u4 u6 t) (fdv (((2 * z) * 65536) + t) (2 * t))) (mx3 u1 (mixL u1 u3 t) (mx2 u1 u3 u5 t) (mx3 u1 u3 u5 u7 t) (fdv (((2 * z) * 65536) + t) (2 * t))))))), (qh, .inl (cJ, 8, .inr (.inl (f8 (mx3 u0 (mixL u0 u2 t) (mx2 u0 u2 u4 t) (mx3 u0 u2 u4 u6 t) (fdv (((2 * z) * 65536) + t) (2 * t))) (mx3 u1 (mixL u1 u3 t) (mx2 u1 u3 u5 t) (mx3 u1 u3 u5 u7 t) (fdv (((2 * z) * 65536) + t) (2 * t))) (mx2 (mixL u0 u2 t) (mx2 u0 u2 u4 t) (mx3 u0 u2 u4 u6 t) (fdv (((2 * z) * 65536) + t) (2 * t))) (mx2 (mixL u1 u3 t) (mx2 u1 u3 u5 t) (mx3 u1 u3 u5 u7 t) (fdv (((2 * z) * 65536) + t) (2 * t))) (mixL (mx2 u0 u2 u4 t) (mx3 u0 u2 u4 u6 t) (fdv (((2 * z) * 65536) + t) (2 * t))) (mixL (mx2 u1 u3 u5 t) (mx3 u1 u3 u5 u7 t) (fdv (((2 * z) * 65536) + t) (2 * t))) (mx3 u0 u2 u4 u6 t) (mx3 u1 u3 u5 u7 t))))), (qm, .inl (cJ, 8, .inr (.inl (f8 g0'_22 g1'_23 g2'_24 g3'_25 g4'_26 g5'_27 g6'_28 g7'_29))))] H := hP
    have hD : va_D A [(hm, .inr (1, [.ref a, .ref b, .ref qa, .ref qu, .ref qb, .ref qh, .ref qm])), (qu, .inl (cJ, 8, .inr (.inl (f8 u0 u1 (mixL u0 u2 t) (mixL u1 u3 t) (mx2 u0 u2 u4 t) (mx2 u1 u3 u5 t) (mx3 u0 u2 u4 u6 t) (mx3 u1 u3 u5 u7 t))))), (qb, .inl (cJ, 8, .inr (.inl (f8 u0 u1 (mixL u0 (mixL u0 u2 t) (fdv (((2 * z) * 65536) + t) (2 * t))) (mixL u1 (mixL u1 u3 t) (fdv (((2 * z) * 65536) + t) (2 * t))) (mx2 u0 (mixL u0 u2 t) (mx2 u0 u2 u4 t) (fdv (((2 * z) * 65536) + t) (2 * t))) (mx2 u1 (mixL u1 u3 t) (mx2 u1 u3 u5 t) (fdv (((2 * z) * 65536) + t) (2 * t))) (mx3 u0 (mixL u0 u2 t) (mx2 u0 u2 u4 t) (mx3 u0 u2 u4 u6 t) (fdv (((2 * z) * 65536) + t) (2 * t))) (mx3 u1 (mixL u1 u3 t) (mx2 u1 u3 u5 t) (mx3 u1 u3 u5 u7 t) (fdv (((2 * z) * 65536) + t) (2 * t))))))), (qh, .inl (cJ, 8, .inr (.inl (f8 (mx3 u0 (mixL u0 u2 t) (mx2 u0 u2 u4 t) (mx3 u0 u2 u4 u6 t) (fdv (((2 * z) * 65536) + t) (2 * t))) (mx3 u1 (mixL u1 u3 t) (mx2 u1 u3 u5 t) (mx3 u1 u3 u5 u7 t) (fdv (((2 * z) * 65536) + t) (2 * t))) (mx2 (mixL u0 u2 t) (mx2 u0 u2 u4 t) (mx3 u0 u2 u4 u6 t) (fdv (((2 * z) * 65536) + t) (2 * t))) (mx2 (mixL u1 u3 t) (mx2 u1 u3 u5 t) (mx3 u1 u3 u5 u7 t) (fdv (((2 * z) * 65536) + t) (2 * t))) (mixL (mx2 u0 u2 u4 t) (mx3 u0 u2 u4 u6 t) (fdv (((2 * z) * 65536) + t) (2 * t))) (mixL (mx2 u1 u3 u5 t) (mx3 u1 u3 u5 u7 t) (fdv (((2 * z) * 65536) + t) (2 * t))) (mx3 u0 u2 u4 u6 t) (mx3 u1 u3 u5 u7 t))))), (qm, .inl (cJ, 8, .inr (.inl (f8 g0'_22 g1'_23 g2'_24 g3'_25 g4'_26 g5'_27 g6'_28 g7'_29))))] := hD
    refine W.eq (g2 := F0 m 65 ls []) rfl ?_
    refine lv_iconst (v := 0) hx hb d_M_cut_65 (by decide) ?_
    refine lv_istore (lv' := [(5, .int 0), (0, .ref hm), (1, .long z), (3, .long t)]) hx hb d_M_cut_66 hl (by decide) rfl (fun ls hl => ?_)
    refine lv_iload hx hb d_M_cut_68 (lv_at hl 0 rfl) ?_
    refine lv_bipush (v := 8) hx hb d_M_cut_70 (by decide) ?_
    refine bn_ge (a1 := 0) (b1 := 8) (tgt := 95) hx hb (by omega) (by omega) d_M_cut_72 (by decide) (fun c_30 => ?_) (fun c_30 => ?_)
    · exact absurd c_30 (by decide)
    refine lv_aload_n hx hb d_M_cut_75 rfl (lv_at hl 1 rfl) ?_
    refine va_get (D := D) (ci := 1) (v := .ref qu) (C := R_M) (T := T_M) (N := 7) hx hb hts (ui_M _) hown hK hP 0 rfl rfl 3 (by decide) (hts _ (gwc gw_512)) (fun _ h9 => h9) rfl d_M_cut_76 ?_
    refine lv_iload hx hb d_M_cut_79 (lv_at hl 0 rfl) ?_
    refine lv_aload_n hx hb d_M_cut_81 rfl (lv_at hl 1 rfl) ?_
    refine va_get (D := D) (ci := 1) (v := .ref qh) (C := R_M) (T := T_M) (N := 7) hx hb hts (ui_M _) hown hK hP 0 rfl rfl 5 (by decide) (hts _ (gwc gw_514)) (fun _ h9 => h9) rfl d_M_cut_82 ?_
    refine lv_iload hx hb d_M_cut_85 (lv_at hl 0 rfl) ?_
    refine ld_l hx hb hK hP 3 2 rfl rfl 0 (by omega) (by omega) d_M_cut_87 ?_
    refine tp_l (mx3 u0 (mixL u0 u2 t) (mx2 u0 u2 u4 t) (mx3 u0 u2 u4 u6 t) (fdv (((2 * z) * 65536) + t) (2 * t))) (rfl) ?_
    refine sf_l (f8 (mx3 u0 (mixL u0 u2 t) (mx2 u0 u2 u4 t) (mx3 u0 u2 u4 u6 t) (fdv (((2 * z) * 65536) + t) (2 * t))) u1 (mixL u0 u2 t) (mixL u1 u3 t) (mx2 u0 u2 u4 t) (mx2 u1 u3 u5 t) (mx3 u0 u2 u4 u6 t) (mx3 u1 u3 u5 u7 t)) hx hb hK hP hD hS 1 2 rfl rfl 0 f8_0 (by decide) (by decide) d_M_cut_88 (fun H locs hP hD hS => ?_)
    have hP : va_P D cl [(hm, .inr (1, [.ref a, .ref b, .ref qa, .ref qu, .ref qb, .ref qh, .ref qm])), (qu, .inl (cJ, 8, .inr (.inl (f8 (mx3 u0 (mixL u0 u2 t) (mx2 u0 u2 u4 t) (mx3 u0 u2 u4 u6 t) (fdv (((2 * z) * 65536) + t) (2 * t))) u1 (mixL u0 u2 t) (mixL u1 u3 t) (mx2 u0 u2 u4 t) (mx2 u1 u3 u5 t) (mx3 u0 u2 u4 u6 t) (mx3 u1 u3 u5 u7 t))))), (qb, .inl (cJ, 8, .inr (.inl (f8 u0 u1 (mixL u0 (mixL u0 u2 t) (fdv (((2 * z) * 65536) + t) (2 * t))) (mixL u1 (mixL u1 u3 t) (fdv (((2 * z) * 65536) + t) (2 * t))) (mx2 u0 (mixL u0 u2 t) (mx2 u0 u2 u4 t) (fdv (((2 * z) * 65536) + t) (2 * t))) (mx2 u1 (mixL u1 u3 t) (mx2 u1 u3 u5 t) (fdv (((2 * z) * 65536) + t) (2 * t))) (mx3 u0 (mixL u0 u2 t) (mx2 u0 u2 u4 t) (mx3 u0 u2 u4 u6 t) (fdv (((2 * z) * 65536) + t) (2 * t))) (mx3 u1 (mixL u1 u3 t) (mx2 u1 u3 u5 t) (mx3 u1 u3 u5 u7 t) (fdv (((2 * z) * 65536) + t) (2 * t))))))), (qh, .inl (cJ, 8, .inr (.inl (f8 (mx3 u0 (mixL u0 u2 t) (mx2 u0 u2 u4 t) (mx3 u0 u2 u4 u6 t) (fdv (((2 * z) * 65536) + t) (2 * t))) (mx3 u1 (mixL u1 u3 t) (mx2 u1 u3 u5 t) (mx3 u1 u3 u5 u7 t) (fdv (((2 * z) * 65536) + t) (2 * t))) (mx2 (mixL u0 u2 t) (mx2 u0 u2 u4 t) (mx3 u0 u2 u4 u6 t) (fdv (((2 * z) * 65536) + t) (2 * t))) (mx2 (mixL u1 u3 t) (mx2 u1 u3 u5 t) (mx3 u1 u3 u5 u7 t) (fdv (((2 * z) * 65536) + t) (2 * t))) (mixL (mx2 u0 u2 u4 t) (mx3 u0 u2 u4 u6 t) (fdv (((2 * z) * 65536) + t) (2 * t))) (mixL (mx2 u1 u3 u5 t) (mx3 u1 u3 u5 u7 t) (fdv (((2 * z) * 65536) + t) (2 * t))) (mx3 u0 u2 u4 u6 t) (mx3 u1 u3 u5 u7 t))))), (qm, .inl (cJ, 8, .inr (.inl (f8 g0'_22 g1'_23 g2'_24 g3'_25 g4'_26 g5'_27 g6'_28 g7'_29))))] H := hP
    have hD : va_D A [(hm, .inr (1, [.ref a, .ref b, .ref qa, .ref qu, .ref qb, .ref qh, .ref qm])), (qu, .inl (cJ, 8, .inr (.inl (f8 (mx3 u0 (mixL u0 u2 t) (mx2 u0 u2 u4 t) (mx3 u0 u2 u4 u6 t) (fdv (((2 * z) * 65536) + t) (2 * t))) u1 (mixL u0 u2 t) (mixL u1 u3 t) (mx2 u0 u2 u4 t) (mx2 u1 u3 u5 t) (mx3 u0 u2 u4 u6 t) (mx3 u1 u3 u5 u7 t))))), (qb, .inl (cJ, 8, .inr (.inl (f8 u0 u1 (mixL u0 (mixL u0 u2 t) (fdv (((2 * z) * 65536) + t) (2 * t))) (mixL u1 (mixL u1 u3 t) (fdv (((2 * z) * 65536) + t) (2 * t))) (mx2 u0 (mixL u0 u2 t) (mx2 u0 u2 u4 t) (fdv (((2 * z) * 65536) + t) (2 * t))) (mx2 u1 (mixL u1 u3 t) (mx2 u1 u3 u5 t) (fdv (((2 * z) * 65536) + t) (2 * t))) (mx3 u0 (mixL u0 u2 t) (mx2 u0 u2 u4 t) (mx3 u0 u2 u4 u6 t) (fdv (((2 * z) * 65536) + t) (2 * t))) (mx3 u1 (mixL u1 u3 t) (mx2 u1 u3 u5 t) (mx3 u1 u3 u5 u7 t) (fdv (((2 * z) * 65536) + t) (2 * t))))))), (qh, .inl (cJ, 8, .inr (.inl (f8 (mx3 u0 (mixL u0 u2 t) (mx2 u0 u2 u4 t) (mx3 u0 u2 u4 u6 t) (fdv (((2 * z) * 65536) + t) (2 * t))) (mx3 u1 (mixL u1 u3 t) (mx2 u1 u3 u5 t) (mx3 u1 u3 u5 u7 t) (fdv (((2 * z) * 65536) + t) (2 * t))) (mx2 (mixL u0 u2 t) (mx2 u0 u2 u4 t) (mx3 u0 u2 u4 u6 t) (fdv (((2 * z) * 65536) + t) (2 * t))) (mx2 (mixL u1 u3 t) (mx2 u1 u3 u5 t) (mx3 u1 u3 u5 u7 t) (fdv (((2 * z) * 65536) + t) (2 * t))) (mixL (mx2 u0 u2 u4 t) (mx3 u0 u2 u4 u6 t) (fdv (((2 * z) * 65536) + t) (2 * t))) (mixL (mx2 u1 u3 u5 t) (mx3 u1 u3 u5 u7 t) (fdv (((2 * z) * 65536) + t) (2 * t))) (mx3 u0 u2 u4 u6 t) (mx3 u1 u3 u5 u7 t))))), (qm, .inl (cJ, 8, .inr (.inl (f8 g0'_22 g1'_23 g2'_24 g3'_25 g4'_26 g5'_27 g6'_28 g7'_29))))] := hD
    refine lv_iinc (v := 1) (lv' := [(5, .int 1), (0, .ref hm), (1, .long z), (3, .long t)]) hx hb d_M_cut_89 hl (k := 0) rfl (by first | exact nI_add _ 1 | rfl | decide) (by decide) rfl (fun ls hl => ?_)
    refine lv_goto (tgt := 68) hx hb d_M_cut_92 (by decide) ?_
    refine lv_iload hx hb d_M_cut_68 (lv_at hl 0 rfl) ?_
    refine lv_bipush (v := 8) hx hb d_M_cut_70 (by decide) ?_
    refine bn_ge (a1 := 1) (b1 := 8) (tgt := 95) hx hb (by omega) (by omega) d_M_cut_72 (by decide) (fun c_31 => ?_) (fun c_31 => ?_)
    · exact absurd c_31 (by decide)
    refine lv_aload_n hx hb d_M_cut_75 rfl (lv_at hl 1 rfl) ?_
    refine va_get (D := D) (ci := 1) (v := .ref qu) (C := R_M) (T := T_M) (N := 7) hx hb hts (ui_M _) hown hK hP 0 rfl rfl 3 (by decide) (hts _ (gwc gw_512)) (fun _ h9 => h9) rfl d_M_cut_76 ?_
    refine lv_iload hx hb d_M_cut_79 (lv_at hl 0 rfl) ?_
    refine lv_aload_n hx hb d_M_cut_81 rfl (lv_at hl 1 rfl) ?_
    refine va_get (D := D) (ci := 1) (v := .ref qh) (C := R_M) (T := T_M) (N := 7) hx hb hts (ui_M _) hown hK hP 0 rfl rfl 5 (by decide) (hts _ (gwc gw_514)) (fun _ h9 => h9) rfl d_M_cut_82 ?_
    refine lv_iload hx hb d_M_cut_85 (lv_at hl 0 rfl) ?_
    refine ld_l hx hb hK hP 3 2 rfl rfl 1 (by omega) (by omega) d_M_cut_87 ?_
    refine tp_l (mx3 u1 (mixL u1 u3 t) (mx2 u1 u3 u5 t) (mx3 u1 u3 u5 u7 t) (fdv (((2 * z) * 65536) + t) (2 * t))) (rfl) ?_
    refine sf_l (f8 (mx3 u0 (mixL u0 u2 t) (mx2 u0 u2 u4 t) (mx3 u0 u2 u4 u6 t) (fdv (((2 * z) * 65536) + t) (2 * t))) (mx3 u1 (mixL u1 u3 t) (mx2 u1 u3 u5 t) (mx3 u1 u3 u5 u7 t) (fdv (((2 * z) * 65536) + t) (2 * t))) (mixL u0 u2 t) (mixL u1 u3 t) (mx2 u0 u2 u4 t) (mx2 u1 u3 u5 t) (mx3 u0 u2 u4 u6 t) (mx3 u1 u3 u5 u7 t)) hx hb hK hP hD hS 1 2 rfl rfl 1 f8_1 (by decide) (by decide) d_M_cut_88 (fun H locs hP hD hS => ?_)
    have hP : va_P D cl [(hm, .inr (1, [.ref a, .ref b, .ref qa, .ref qu, .ref qb, .ref qh, .ref qm])), (qu, .inl (cJ, 8, .inr (.inl (f8 (mx3 u0 (mixL u0 u2 t) (mx2 u0 u2 u4 t) (mx3 u0 u2 u4 u6 t) (fdv (((2 * z) * 65536) + t) (2 * t))) (mx3 u1 (mixL u1 u3 t) (mx2 u1 u3 u5 t) (mx3 u1 u3 u5 u7 t) (fdv (((2 * z) * 65536) + t) (2 * t))) (mixL u0 u2 t) (mixL u1 u3 t) (mx2 u0 u2 u4 t) (mx2 u1 u3 u5 t) (mx3 u0 u2 u4 u6 t) (mx3 u1 u3 u5 u7 t))))), (qb, .inl (cJ, 8, .inr (.inl (f8 u0 u1 (mixL u0 (mixL u0 u2 t) (fdv (((2 * z) * 65536) + t) (2 * t))) (mixL u1 (mixL u1 u3 t) (fdv (((2 * z) * 65536) + t) (2 * t))) (mx2 u0 (mixL u0 u2 t) (mx2 u0 u2 u4 t) (fdv (((2 * z) * 65536) + t) (2 * t))) (mx2 u1 (mixL u1 u3 t) (mx2 u1 u3 u5 t) (fdv (((2 * z) * 65536) + t) (2 * t))) (mx3 u0 (mixL u0 u2 t) (mx2 u0 u2 u4 t) (mx3 u0 u2 u4 u6 t) (fdv (((2 * z) * 65536) + t) (2 * t))) (mx3 u1 (mixL u1 u3 t) (mx2 u1 u3 u5 t) (mx3 u1 u3 u5 u7 t) (fdv (((2 * z) * 65536) + t) (2 * t))))))), (qh, .inl (cJ, 8, .inr (.inl (f8 (mx3 u0 (mixL u0 u2 t) (mx2 u0 u2 u4 t) (mx3 u0 u2 u4 u6 t) (fdv (((2 * z) * 65536) + t) (2 * t))) (mx3 u1 (mixL u1 u3 t) (mx2 u1 u3 u5 t) (mx3 u1 u3 u5 u7 t) (fdv (((2 * z) * 65536) + t) (2 * t))) (mx2 (mixL u0 u2 t) (mx2 u0 u2 u4 t) (mx3 u0 u2 u4 u6 t) (fdv (((2 * z) * 65536) + t) (2 * t))) (mx2 (mixL u1 u3 t) (mx2 u1 u3 u5 t) (mx3 u1 u3 u5 u7 t) (fdv (((2 * z) * 65536) + t) (2 * t))) (mixL (mx2 u0 u2 u4 t) (mx3 u0 u2 u4 u6 t) (fdv (((2 * z) * 65536) + t) (2 * t))) (mixL (mx2 u1 u3 u5 t) (mx3 u1 u3 u5 u7 t) (fdv (((2 * z) * 65536) + t) (2 * t))) (mx3 u0 u2 u4 u6 t) (mx3 u1 u3 u5 u7 t))))), (qm, .inl (cJ, 8, .inr (.inl (f8 g0'_22 g1'_23 g2'_24 g3'_25 g4'_26 g5'_27 g6'_28 g7'_29))))] H := hP
    have hD : va_D A [(hm, .inr (1, [.ref a, .ref b, .ref qa, .ref qu, .ref qb, .ref qh, .ref qm])), (qu, .inl (cJ, 8, .inr (.inl (f8 (mx3 u0 (mixL u0 u2 t) (mx2 u0 u2 u4 t) (mx3 u0 u2 u4 u6 t) (fdv (((2 * z) * 65536) + t) (2 * t))) (mx3 u1 (mixL u1 u3 t) (mx2 u1 u3 u5 t) (mx3 u1 u3 u5 u7 t) (fdv (((2 * z) * 65536) + t) (2 * t))) (mixL u0 u2 t) (mixL u1 u3 t) (mx2 u0 u2 u4 t) (mx2 u1 u3 u5 t) (mx3 u0 u2 u4 u6 t) (mx3 u1 u3 u5 u7 t))))), (qb, .inl (cJ, 8, .inr (.inl (f8 u0 u1 (mixL u0 (mixL u0 u2 t) (fdv (((2 * z) * 65536) + t) (2 * t))) (mixL u1 (mixL u1 u3 t) (fdv (((2 * z) * 65536) + t) (2 * t))) (mx2 u0 (mixL u0 u2 t) (mx2 u0 u2 u4 t) (fdv (((2 * z) * 65536) + t) (2 * t))) (mx2 u1 (mixL u1 u3 t) (mx2 u1 u3 u5 t) (fdv (((2 * z) * 65536) + t) (2 * t))) (mx3 u0 (mixL u0 u2 t) (mx2 u0 u2 u4 t) (mx3 u0 u2 u4 u6 t) (fdv (((2 * z) * 65536) + t) (2 * t))) (mx3 u1 (mixL u1 u3 t) (mx2 u1 u3 u5 t) (mx3 u1 u3 u5 u7 t) (fdv (((2 * z) * 65536) + t) (2 * t))))))), (qh, .inl (cJ, 8, .inr (.inl (f8 (mx3 u0 (mixL u0 u2 t) (mx2 u0 u2 u4 t) (mx3 u0 u2 u4 u6 t) (fdv (((2 * z) * 65536) + t) (2 * t))) (mx3 u1 (mixL u1 u3 t) (mx2 u1 u3 u5 t) (mx3 u1 u3 u5 u7 t) (fdv (((2 * z) * 65536) + t) (2 * t))) (mx2 (mixL u0 u2 t) (mx2 u0 u2 u4 t) (mx3 u0 u2 u4 u6 t) (fdv (((2 * z) * 65536) + t) (2 * t))) (mx2 (mixL u1 u3 t) (mx2 u1 u3 u5 t) (mx3 u1 u3 u5 u7 t) (fdv (((2 * z) * 65536) + t) (2 * t))) (mixL (mx2 u0 u2 u4 t) (mx3 u0 u2 u4 u6 t) (fdv (((2 * z) * 65536) + t) (2 * t))) (mixL (mx2 u1 u3 u5 t) (mx3 u1 u3 u5 u7 t) (fdv (((2 * z) * 65536) + t) (2 * t))) (mx3 u0 u2 u4 u6 t) (mx3 u1 u3 u5 u7 t))))), (qm, .inl (cJ, 8, .inr (.inl (f8 g0'_22 g1'_23 g2'_24 g3'_25 g4'_26 g5'_27 g6'_28 g7'_29))))] := hD
    refine lv_iinc (v := 2) (lv' := [(5, .int 2), (0, .ref hm), (1, .long z), (3, .long t)]) hx hb d_M_cut_89 hl (k := 0) rfl (by first | exact nI_add _ 1 | rfl | decide) (by decide) rfl (fun ls hl => ?_)
    refine lv_goto (tgt := 68) hx hb d_M_cut_92 (by decide) ?_
    refine lv_iload hx hb d_M_cut_68 (lv_at hl 0 rfl) ?_
    refine lv_bipush (v := 8) hx hb d_M_cut_70 (by decide) ?_
    refine bn_ge (a1 := 2) (b1 := 8) (tgt := 95) hx hb (by omega) (by omega) d_M_cut_72 (by decide) (fun c_32 => ?_) (fun c_32 => ?_)
    · exact absurd c_32 (by decide)
    refine lv_aload_n hx hb d_M_cut_75 rfl (lv_at hl 1 rfl) ?_
    refine va_get (D := D) (ci := 1) (v := .ref qu) (C := R_M) (T := T_M) (N := 7) hx hb hts (ui_M _) hown hK hP 0 rfl rfl 3 (by decide) (hts _ (gwc gw_512)) (fun _ h9 => h9) rfl d_M_cut_76 ?_
    refine lv_iload hx hb d_M_cut_79 (lv_at hl 0 rfl) ?_
    refine lv_aload_n hx hb d_M_cut_81 rfl (lv_at hl 1 rfl) ?_
    refine va_get (D := D) (ci := 1) (v := .ref qh) (C := R_M) (T := T_M) (N := 7) hx hb hts (ui_M _) hown hK hP 0 rfl rfl 5 (by decide) (hts _ (gwc gw_514)) (fun _ h9 => h9) rfl d_M_cut_82 ?_
    refine lv_iload hx hb d_M_cut_85 (lv_at hl 0 rfl) ?_
    refine ld_l hx hb hK hP 3 2 rfl rfl 2 (by omega) (by omega) d_M_cut_87 ?_
    refine tp_l (mx2 (mixL u0 u2 t) (mx2 u0 u2 u4 t) (mx3 u0 u2 u4 u6 t) (fdv (((2 * z) * 65536) + t) (2 * t))) (rfl) ?_
    refine sf_l (f8 (mx3 u0 (mixL u0 u2 t) (mx2 u0 u2 u4 t) (mx3 u0 u2 u4 u6 t) (fdv (((2 * z) * 65536) + t) (2 * t))) (mx3 u1 (mixL u1 u3 t) (mx2 u1 u3 u5 t) (mx3 u1 u3 u5 u7 t) (fdv (((2 * z) * 65536) + t) (2 * t))) (mx2 (mixL u0 u2 t) (mx2 u0 u2 u4 t) (mx3 u0 u2 u4 u6 t) (fdv (((2 * z) * 65536) + t) (2 * t))) (mixL u1 u3 t) (mx2 u0 u2 u4 t) (mx2 u1 u3 u5 t) (mx3 u0 u2 u4 u6 t) (mx3 u1 u3 u5 u7 t)) hx hb hK hP hD hS 1 2 rfl rfl 2 f8_2 (by decide) (by decide) d_M_cut_88 (fun H locs hP hD hS => ?_)
    have hP : va_P D cl [(hm, .inr (1, [.ref a, .ref b, .ref qa, .ref qu, .ref qb, .ref qh, .ref qm])), (qu, .inl (cJ, 8, .inr (.inl (f8 (mx3 u0 (mixL u0 u2 t) (mx2 u0 u2 u4 t) (mx3 u0 u2 u4 u6 t) (fdv (((2 * z) * 65536) + t) (2 * t))) (mx3 u1 (mixL u1 u3 t) (mx2 u1 u3 u5 t) (mx3 u1 u3 u5 u7 t) (fdv (((2 * z) * 65536) + t) (2 * t))) (mx2 (mixL u0 u2 t) (mx2 u0 u2 u4 t) (mx3 u0 u2 u4 u6 t) (fdv (((2 * z) * 65536) + t) (2 * t))) (mixL u1 u3 t) (mx2 u0 u2 u4 t) (mx2 u1 u3 u5 t) (mx3 u0 u2 u4 u6 t) (mx3 u1 u3 u5 u7 t))))), (qb, .inl (cJ, 8, .inr (.inl (f8 u0 u1 (mixL u0 (mixL u0 u2 t) (fdv (((2 * z) * 65536) + t) (2 * t))) (mixL u1 (mixL u1 u3 t) (fdv (((2 * z) * 65536) + t) (2 * t))) (mx2 u0 (mixL u0 u2 t) (mx2 u0 u2 u4 t) (fdv (((2 * z) * 65536) + t) (2 * t))) (mx2 u1 (mixL u1 u3 t) (mx2 u1 u3 u5 t) (fdv (((2 * z) * 65536) + t) (2 * t))) (mx3 u0 (mixL u0 u2 t) (mx2 u0 u2 u4 t) (mx3 u0 u2 u4 u6 t) (fdv (((2 * z) * 65536) + t) (2 * t))) (mx3 u1 (mixL u1 u3 t) (mx2 u1 u3 u5 t) (mx3 u1 u3 u5 u7 t) (fdv (((2 * z) * 65536) + t) (2 * t))))))), (qh, .inl (cJ, 8, .inr (.inl (f8 (mx3 u0 (mixL u0 u2 t) (mx2 u0 u2 u4 t) (mx3 u0 u2 u4 u6 t) (fdv (((2 * z) * 65536) + t) (2 * t))) (mx3 u1 (mixL u1 u3 t) (mx2 u1 u3 u5 t) (mx3 u1 u3 u5 u7 t) (fdv (((2 * z) * 65536) + t) (2 * t))) (mx2 (mixL u0 u2 t) (mx2 u0 u2 u4 t) (mx3 u0 u2 u4 u6 t) (fdv (((2 * z) * 65536) + t) (2 * t))) (mx2 (mixL u1 u3 t) (mx2 u1 u3 u5 t) (mx3 u1 u3 u5 u7 t) (fdv (((2 * z) * 65536) + t) (2 * t))) (mixL (mx2 u0 u2 u4 t) (mx3 u0 u2 u4 u6 t) (fdv (((2 * z) * 65536) + t) (2 * t))) (mixL (mx2 u1 u3 u5 t) (mx3 u1 u3 u5 u7 t) (fdv (((2 * z) * 65536) + t) (2 * t))) (mx3 u0 u2 u4 u6 t) (mx3 u1 u3 u5 u7 t))))), (qm, .inl (cJ, 8, .inr (.inl (f8 g0'_22 g1'_23 g2'_24 g3'_25 g4'_26 g5'_27 g6'_28 g7'_29))))] H := hP
    have hD : va_D A [(hm, .inr (1, [.ref a, .ref b, .ref qa, .ref qu, .ref qb, .ref qh, .ref qm])), (qu, .inl (cJ, 8, .inr (.inl (f8 (mx3 u0 (mixL u0 u2 t) (mx2 u0 u2 u4 t) (mx3 u0 u2 u4 u6 t) (fdv (((2 * z) * 65536) + t) (2 * t))) (mx3 u1 (mixL u1 u3 t) (mx2 u1 u3 u5 t) (mx3 u1 u3 u5 u7 t) (fdv (((2 * z) * 65536) + t) (2 * t))) (mx2 (mixL u0 u2 t) (mx2 u0 u2 u4 t) (mx3 u0 u2 u4 u6 t) (fdv (((2 * z) * 65536) + t) (2 * t))) (mixL u1 u3 t) (mx2 u0 u2 u4 t) (mx2 u1 u3 u5 t) (mx3 u0 u2 u4 u6 t) (mx3 u1 u3 u5 u7 t))))), (qb, .inl (cJ, 8, .inr (.inl (f8 u0 u1 (mixL u0 (mixL u0 u2 t) (fdv (((2 * z) * 65536) + t) (2 * t))) (mixL u1 (mixL u1 u3 t) (fdv (((2 * z) * 65536) + t) (2 * t))) (mx2 u0 (mixL u0 u2 t) (mx2 u0 u2 u4 t) (fdv (((2 * z) * 65536) + t) (2 * t))) (mx2 u1 (mixL u1 u3 t) (mx2 u1 u3 u5 t) (fdv (((2 * z) * 65536) + t) (2 * t))) (mx3 u0 (mixL u0 u2 t) (mx2 u0 u2 u4 t) (mx3 u0 u2 u4 u6 t) (fdv (((2 * z) * 65536) + t) (2 * t))) (mx3 u1 (mixL u1 u3 t) (mx2 u1 u3 u5 t) (mx3 u1 u3 u5 u7 t) (fdv (((2 * z) * 65536) + t) (2 * t))))))), (qh, .inl (cJ, 8, .inr (.inl (f8 (mx3 u0 (mixL u0 u2 t) (mx2 u0 u2 u4 t) (mx3 u0 u2 u4 u6 t) (fdv (((2 * z) * 65536) + t) (2 * t))) (mx3 u1 (mixL u1 u3 t) (mx2 u1 u3 u5 t) (mx3 u1 u3 u5 u7 t) (fdv (((2 * z) * 65536) + t) (2 * t))) (mx2 (mixL u0 u2 t) (mx2 u0 u2 u4 t) (mx3 u0 u2 u4 u6 t) (fdv (((2 * z) * 65536) + t) (2 * t))) (mx2 (mixL u1 u3 t) (mx2 u1 u3 u5 t) (mx3 u1 u3 u5 u7 t) (fdv (((2 * z) * 65536) + t) (2 * t))) (mixL (mx2 u0 u2 u4 t) (mx3 u0 u2 u4 u6 t) (fdv (((2 * z) * 65536) + t) (2 * t))) (mixL (mx2 u1 u3 u5 t) (mx3 u1 u3 u5 u7 t) (fdv (((2 * z) * 65536) + t) (2 * t))) (mx3 u0 u2 u4 u6 t) (mx3 u1 u3 u5 u7 t))))), (qm, .inl (cJ, 8, .inr (.inl (f8 g0'_22 g1'_23 g2'_24 g3'_25 g4'_26 g5'_27 g6'_28 g7'_29))))] := hD
    refine lv_iinc (v := 3) (lv' := [(5, .int 3), (0, .ref hm), (1, .long z), (3, .long t)]) hx hb d_M_cut_89 hl (k := 0) rfl (by first | exact nI_add _ 1 | rfl | decide) (by decide) rfl (fun ls hl => ?_)
    refine lv_goto (tgt := 68) hx hb d_M_cut_92 (by decide) ?_
    refine lv_iload hx hb d_M_cut_68 (lv_at hl 0 rfl) ?_
    refine lv_bipush (v := 8) hx hb d_M_cut_70 (by decide) ?_
    refine bn_ge (a1 := 3) (b1 := 8) (tgt := 95) hx hb (by omega) (by omega) d_M_cut_72 (by decide) (fun c_33 => ?_) (fun c_33 => ?_)
    · exact absurd c_33 (by decide)
    refine lv_aload_n hx hb d_M_cut_75 rfl (lv_at hl 1 rfl) ?_
    refine va_get (D := D) (ci := 1) (v := .ref qu) (C := R_M) (T := T_M) (N := 7) hx hb hts (ui_M _) hown hK hP 0 rfl rfl 3 (by decide) (hts _ (gwc gw_512)) (fun _ h9 => h9) rfl d_M_cut_76 ?_
    refine lv_iload hx hb d_M_cut_79 (lv_at hl 0 rfl) ?_
    refine lv_aload_n hx hb d_M_cut_81 rfl (lv_at hl 1 rfl) ?_
    refine va_get (D := D) (ci := 1) (v := .ref qh) (C := R_M) (T := T_M) (N := 7) hx hb hts (ui_M _) hown hK hP 0 rfl rfl 5 (by decide) (hts _ (gwc gw_514)) (fun _ h9 => h9) rfl d_M_cut_82 ?_
    refine lv_iload hx hb d_M_cut_85 (lv_at hl 0 rfl) ?_
    refine ld_l hx hb hK hP 3 2 rfl rfl 3 (by omega) (by omega) d_M_cut_87 ?_
    refine tp_l (mx2 (mixL u1 u3 t) (mx2 u1 u3 u5 t) (mx3 u1 u3 u5 u7 t) (fdv (((2 * z) * 65536) + t) (2 * t))) (rfl) ?_
    refine sf_l (f8 (mx3 u0 (mixL u0 u2 t) (mx2 u0 u2 u4 t) (mx3 u0 u2 u4 u6 t) (fdv (((2 * z) * 65536) + t) (2 * t))) (mx3 u1 (mixL u1 u3 t) (mx2 u1 u3 u5 t) (mx3 u1 u3 u5 u7 t) (fdv (((2 * z) * 65536) + t) (2 * t))) (mx2 (mixL u0 u2 t) (mx2 u0 u2 u4 t) (mx3 u0 u2 u4 u6 t) (fdv (((2 * z) * 65536) + t) (2 * t))) (mx2 (mixL u1 u3 t) (mx2 u1 u3 u5 t) (mx3 u1 u3 u5 u7 t) (fdv (((2 * z) * 65536) + t) (2 * t))) (mx2 u0 u2 u4 t) (mx2 u1 u3 u5 t) (mx3 u0 u2 u4 u6 t) (mx3 u1 u3 u5 u7 t)) hx hb hK hP hD hS 1 2 rfl rfl 3 f8_3 (by decide) (by decide) d_M_cut_88 (fun H locs hP hD hS => ?_)
    have hP : va_P D cl [(hm, .inr (1, [.ref a, .ref b, .ref qa, .ref qu, .ref qb, .ref qh, .ref qm])), (qu, .inl (cJ, 8, .inr (.inl (f8 (mx3 u0 (mixL u0 u2 t) (mx2 u0 u2 u4 t) (mx3 u0 u2 u4 u6 t) (fdv (((2 * z) * 65536) + t) (2 * t))) (mx3 u1 (mixL u1 u3 t) (mx2 u1 u3 u5 t) (mx3 u1 u3 u5 u7 t) (fdv (((2 * z) * 65536) + t) (2 * t))) (mx2 (mixL u0 u2 t) (mx2 u0 u2 u4 t) (mx3 u0 u2 u4 u6 t) (fdv (((2 * z) * 65536) + t) (2 * t))) (mx2 (mixL u1 u3 t) (mx2 u1 u3 u5 t) (mx3 u1 u3 u5 u7 t) (fdv (((2 * z) * 65536) + t) (2 * t))) (mx2 u0 u2 u4 t) (mx2 u1 u3 u5 t) (mx3 u0 u2 u4 u6 t) (mx3 u1 u3 u5 u7 t))))), (qb, .inl (cJ, 8, .inr (.inl (f8 u0 u1 (mixL u0 (mixL u0 u2 t) (fdv (((2 * z) * 65536) + t) (2 * t))) (mixL u1 (mixL u1 u3 t) (fdv (((2 * z) * 65536) + t) (2 * t))) (mx2 u0 (mixL u0 u2 t) (mx2 u0 u2 u4 t) (fdv (((2 * z) * 65536) + t) (2 * t))) (mx2 u1 (mixL u1 u3 t) (mx2 u1 u3 u5 t) (fdv (((2 * z) * 65536) + t) (2 * t))) (mx3 u0 (mixL u0 u2 t) (mx2 u0 u2 u4 t) (mx3 u0 u2 u4 u6 t) (fdv (((2 * z) * 65536) + t) (2 * t))) (mx3 u1 (mixL u1 u3 t) (mx2 u1 u3 u5 t) (mx3 u1 u3 u5 u7 t) (fdv (((2 * z) * 65536) + t) (2 * t))))))), (qh, .inl (cJ, 8, .inr (.inl (f8 (mx3 u0 (mixL u0 u2 t) (mx2 u0 u2 u4 t) (mx3 u0 u2 u4 u6 t) (fdv (((2 * z) * 65536) + t) (2 * t))) (mx3 u1 (mixL u1 u3 t) (mx2 u1 u3 u5 t) (mx3 u1 u3 u5 u7 t) (fdv (((2 * z) * 65536) + t) (2 * t))) (mx2 (mixL u0 u2 t) (mx2 u0 u2 u4 t) (mx3 u0 u2 u4 u6 t) (fdv (((2 * z) * 65536) + t) (2 * t))) (mx2 (mixL u1 u3 t) (mx2 u1 u3 u5 t) (mx3 u1 u3 u5 u7 t) (fdv (((2 * z) * 65536) + t) (2 * t))) (mixL (mx2 u0 u2 u4 t) (mx3 u0 u2 u4 u6 t) (fdv (((2 * z) * 65536) + t) (2 * t))) (mixL (mx2 u1 u3 u5 t) (mx3 u1 u3 u5 u7 t) (fdv (((2 * z) * 65536) + t) (2 * t))) (mx3 u0 u2 u4 u6 t) (mx3 u1 u3 u5 u7 t))))), (qm, .inl (cJ, 8, .inr (.inl (f8 g0'_22 g1'_23 g2'_24 g3'_25 g4'_26 g5'_27 g6'_28 g7'_29))))] H := hP
    have hD : va_D A [(hm, .inr (1, [.ref a, .ref b, .ref qa, .ref qu, .ref qb, .ref qh, .ref qm])), (qu, .inl (cJ, 8, .inr (.inl (f8 (mx3 u0 (mixL u0 u2 t) (mx2 u0 u2 u4 t) (mx3 u0 u2 u4 u6 t) (fdv (((2 * z) * 65536) + t) (2 * t))) (mx3 u1 (mixL u1 u3 t) (mx2 u1 u3 u5 t) (mx3 u1 u3 u5 u7 t) (fdv (((2 * z) * 65536) + t) (2 * t))) (mx2 (mixL u0 u2 t) (mx2 u0 u2 u4 t) (mx3 u0 u2 u4 u6 t) (fdv (((2 * z) * 65536) + t) (2 * t))) (mx2 (mixL u1 u3 t) (mx2 u1 u3 u5 t) (mx3 u1 u3 u5 u7 t) (fdv (((2 * z) * 65536) + t) (2 * t))) (mx2 u0 u2 u4 t) (mx2 u1 u3 u5 t) (mx3 u0 u2 u4 u6 t) (mx3 u1 u3 u5 u7 t))))), (qb, .inl (cJ, 8, .inr (.inl (f8 u0 u1 (mixL u0 (mixL u0 u2 t) (fdv (((2 * z) * 65536) + t) (2 * t))) (mixL u1 (mixL u1 u3 t) (fdv (((2 * z) * 65536) + t) (2 * t))) (mx2 u0 (mixL u0 u2 t) (mx2 u0 u2 u4 t) (fdv (((2 * z) * 65536) + t) (2 * t))) (mx2 u1 (mixL u1 u3 t) (mx2 u1 u3 u5 t) (fdv (((2 * z) * 65536) + t) (2 * t))) (mx3 u0 (mixL u0 u2 t) (mx2 u0 u2 u4 t) (mx3 u0 u2 u4 u6 t) (fdv (((2 * z) * 65536) + t) (2 * t))) (mx3 u1 (mixL u1 u3 t) (mx2 u1 u3 u5 t) (mx3 u1 u3 u5 u7 t) (fdv (((2 * z) * 65536) + t) (2 * t))))))), (qh, .inl (cJ, 8, .inr (.inl (f8 (mx3 u0 (mixL u0 u2 t) (mx2 u0 u2 u4 t) (mx3 u0 u2 u4 u6 t) (fdv (((2 * z) * 65536) + t) (2 * t))) (mx3 u1 (mixL u1 u3 t) (mx2 u1 u3 u5 t) (mx3 u1 u3 u5 u7 t) (fdv (((2 * z) * 65536) + t) (2 * t))) (mx2 (mixL u0 u2 t) (mx2 u0 u2 u4 t) (mx3 u0 u2 u4 u6 t) (fdv (((2 * z) * 65536) + t) (2 * t))) (mx2 (mixL u1 u3 t) (mx2 u1 u3 u5 t) (mx3 u1 u3 u5 u7 t) (fdv (((2 * z) * 65536) + t) (2 * t))) (mixL (mx2 u0 u2 u4 t) (mx3 u0 u2 u4 u6 t) (fdv (((2 * z) * 65536) + t) (2 * t))) (mixL (mx2 u1 u3 u5 t) (mx3 u1 u3 u5 u7 t) (fdv (((2 * z) * 65536) + t) (2 * t))) (mx3 u0 u2 u4 u6 t) (mx3 u1 u3 u5 u7 t))))), (qm, .inl (cJ, 8, .inr (.inl (f8 g0'_22 g1'_23 g2'_24 g3'_25 g4'_26 g5'_27 g6'_28 g7'_29))))] := hD
    refine lv_iinc (v := 4) (lv' := [(5, .int 4), (0, .ref hm), (1, .long z), (3, .long t)]) hx hb d_M_cut_89 hl (k := 0) rfl (by first | exact nI_add _ 1 | rfl | decide) (by decide) rfl (fun ls hl => ?_)
    refine lv_goto (tgt := 68) hx hb d_M_cut_92 (by decide) ?_
    refine lv_iload hx hb d_M_cut_68 (lv_at hl 0 rfl) ?_
    refine lv_bipush (v := 8) hx hb d_M_cut_70 (by decide) ?_
    refine bn_ge (a1 := 4) (b1 := 8) (tgt := 95) hx hb (by omega) (by omega) d_M_cut_72 (by decide) (fun c_34 => ?_) (fun c_34 => ?_)
    · exact absurd c_34 (by decide)
    refine lv_aload_n hx hb d_M_cut_75 rfl (lv_at hl 1 rfl) ?_
    refine va_get (D := D) (ci := 1) (v := .ref qu) (C := R_M) (T := T_M) (N := 7) hx hb hts (ui_M _) hown hK hP 0 rfl rfl 3 (by decide) (hts _ (gwc gw_512)) (fun _ h9 => h9) rfl d_M_cut_76 ?_
    refine lv_iload hx hb d_M_cut_79 (lv_at hl 0 rfl) ?_
    refine lv_aload_n hx hb d_M_cut_81 rfl (lv_at hl 1 rfl) ?_
    refine va_get (D := D) (ci := 1) (v := .ref qh) (C := R_M) (T := T_M) (N := 7) hx hb hts (ui_M _) hown hK hP 0 rfl rfl 5 (by decide) (hts _ (gwc gw_514)) (fun _ h9 => h9) rfl d_M_cut_82 ?_
    refine lv_iload hx hb d_M_cut_85 (lv_at hl 0 rfl) ?_
    refine ld_l hx hb hK hP 3 2 rfl rfl 4 (by omega) (by omega) d_M_cut_87 ?_
    refine tp_l (mixL (mx2 u0 u2 u4 t) (mx3 u0 u2 u4 u6 t) (fdv (((2 * z) * 65536) + t) (2 * t))) (rfl) ?_
    refine sf_l (f8 (mx3 u0 (mixL u0 u2 t) (mx2 u0 u2 u4 t) (mx3 u0 u2 u4 u6 t) (fdv (((2 * z) * 65536) + t) (2 * t))) (mx3 u1 (mixL u1 u3 t) (mx2 u1 u3 u5 t) (mx3 u1 u3 u5 u7 t) (fdv (((2 * z) * 65536) + t) (2 * t))) (mx2 (mixL u0 u2 t) (mx2 u0 u2 u4 t) (mx3 u0 u2 u4 u6 t) (fdv (((2 * z) * 65536) + t) (2 * t))) (mx2 (mixL u1 u3 t) (mx2 u1 u3 u5 t) (mx3 u1 u3 u5 u7 t) (fdv (((2 * z) * 65536) + t) (2 * t))) (mixL (mx2 u0 u2 u4 t) (mx3 u0 u2 u4 u6 t) (fdv (((2 * z) * 65536) + t) (2 * t))) (mx2 u1 u3 u5 t) (mx3 u0 u2 u4 u6 t) (mx3 u1 u3 u5 u7 t)) hx hb hK hP hD hS 1 2 rfl rfl 4 f8_4 (by decide) (by decide) d_M_cut_88 (fun H locs hP hD hS => ?_)
    have hP : va_P D cl [(hm, .inr (1, [.ref a, .ref b, .ref qa, .ref qu, .ref qb, .ref qh, .ref qm])), (qu, .inl (cJ, 8, .inr (.inl (f8 (mx3 u0 (mixL u0 u2 t) (mx2 u0 u2 u4 t) (mx3 u0 u2 u4 u6 t) (fdv (((2 * z) * 65536) + t) (2 * t))) (mx3 u1 (mixL u1 u3 t) (mx2 u1 u3 u5 t) (mx3 u1 u3 u5 u7 t) (fdv (((2 * z) * 65536) + t) (2 * t))) (mx2 (mixL u0 u2 t) (mx2 u0 u2 u4 t) (mx3 u0 u2 u4 u6 t) (fdv (((2 * z) * 65536) + t) (2 * t))) (mx2 (mixL u1 u3 t) (mx2 u1 u3 u5 t) (mx3 u1 u3 u5 u7 t) (fdv (((2 * z) * 65536) + t) (2 * t))) (mixL (mx2 u0 u2 u4 t) (mx3 u0 u2 u4 u6 t) (fdv (((2 * z) * 65536) + t) (2 * t))) (mx2 u1 u3 u5 t) (mx3 u0 u2 u4 u6 t) (mx3 u1 u3 u5 u7 t))))), (qb, .inl (cJ, 8, .inr (.inl (f8 u0 u1 (mixL u0 (mixL u0 u2 t) (fdv (((2 * z) * 65536) + t) (2 * t))) (mixL u1 (mixL u1 u3 t) (fdv (((2 * z) * 65536) + t) (2 * t))) (mx2 u0 (mixL u0 u2 t) (mx2 u0 u2 u4 t) (fdv (((2 * z) * 65536) + t) (2 * t))) (mx2 u1 (mixL u1 u3 t) (mx2 u1 u3 u5 t) (fdv (((2 * z) * 65536) + t) (2 * t))) (mx3 u0 (mixL u0 u2 t) (mx2 u0 u2 u4 t) (mx3 u0 u2 u4 u6 t) (fdv (((2 * z) * 65536) + t) (2 * t))) (mx3 u1 (mixL u1 u3 t) (mx2 u1 u3 u5 t) (mx3 u1 u3 u5 u7 t) (fdv (((2 * z) * 65536) + t) (2 * t))))))), (qh, .inl (cJ, 8, .inr (.inl (f8 (mx3 u0 (mixL u0 u2 t) (mx2 u0 u2 u4 t) (mx3 u0 u2 u4 u6 t) (fdv (((2 * z) * 65536) + t) (2 * t))) (mx3 u1 (mixL u1 u3 t) (mx2 u1 u3 u5 t) (mx3 u1 u3 u5 u7 t) (fdv (((2 * z) * 65536) + t) (2 * t))) (mx2 (mixL u0 u2 t) (mx2 u0 u2 u4 t) (mx3 u0 u2 u4 u6 t) (fdv (((2 * z) * 65536) + t) (2 * t))) (mx2 (mixL u1 u3 t) (mx2 u1 u3 u5 t) (mx3 u1 u3 u5 u7 t) (fdv (((2 * z) * 65536) + t) (2 * t))) (mixL (mx2 u0 u2 u4 t) (mx3 u0 u2 u4 u6 t) (fdv (((2 * z) * 65536) + t) (2 * t))) (mixL (mx2 u1 u3 u5 t) (mx3 u1 u3 u5 u7 t) (fdv (((2 * z) * 65536) + t) (2 * t))) (mx3 u0 u2 u4 u6 t) (mx3 u1 u3 u5 u7 t))))), (qm, .inl (cJ, 8, .inr (.inl (f8 g0'_22 g1'_23 g2'_24 g3'_25 g4'_26 g5'_27 g6'_28 g7'_29))))] H := hP
    have hD : va_D A [(hm, .inr (1, [.ref a, .ref b, .ref qa, .ref qu, .ref qb, .ref qh, .ref qm])), (qu, .inl (cJ, 8, .inr (.inl (f8 (mx3 u0 (mixL u0 u2 t) (mx2 u0 u2 u4 t) (mx3 u0 u2 u4 u6 t) (fdv (((2 * z) * 65536) + t) (2 * t))) (mx3 u1 (mixL u1 u3 t) (mx2 u1 u3 u5 t) (mx3 u1 u3 u5 u7 t) (fdv (((2 * z) * 65536) + t) (2 * t))) (mx2 (mixL u0 u2 t) (mx2 u0 u2 u4 t) (mx3 u0 u2 u4 u6 t) (fdv (((2 * z) * 65536) + t) (2 * t))) (mx2 (mixL u1 u3 t) (mx2 u1 u3 u5 t) (mx3 u1 u3 u5 u7 t) (fdv (((2 * z) * 65536) + t) (2 * t))) (mixL (mx2 u0 u2 u4 t) (mx3 u0 u2 u4 u6 t) (fdv (((2 * z) * 65536) + t) (2 * t))) (mx2 u1 u3 u5 t) (mx3 u0 u2 u4 u6 t) (mx3 u1 u3 u5 u7 t))))), (qb, .inl (cJ, 8, .inr (.inl (f8 u0 u1 (mixL u0 (mixL u0 u2 t) (fdv (((2 * z) * 65536) + t) (2 * t))) (mixL u1 (mixL u1 u3 t) (fdv (((2 * z) * 65536) + t) (2 * t))) (mx2 u0 (mixL u0 u2 t) (mx2 u0 u2 u4 t) (fdv (((2 * z) * 65536) + t) (2 * t))) (mx2 u1 (mixL u1 u3 t) (mx2 u1 u3 u5 t) (fdv (((2 * z) * 65536) + t) (2 * t))) (mx3 u0 (mixL u0 u2 t) (mx2 u0 u2 u4 t) (mx3 u0 u2 u4 u6 t) (fdv (((2 * z) * 65536) + t) (2 * t))) (mx3 u1 (mixL u1 u3 t) (mx2 u1 u3 u5 t) (mx3 u1 u3 u5 u7 t) (fdv (((2 * z) * 65536) + t) (2 * t))))))), (qh, .inl (cJ, 8, .inr (.inl (f8 (mx3 u0 (mixL u0 u2 t) (mx2 u0 u2 u4 t) (mx3 u0 u2 u4 u6 t) (fdv (((2 * z) * 65536) + t) (2 * t))) (mx3 u1 (mixL u1 u3 t) (mx2 u1 u3 u5 t) (mx3 u1 u3 u5 u7 t) (fdv (((2 * z) * 65536) + t) (2 * t))) (mx2 (mixL u0 u2 t) (mx2 u0 u2 u4 t) (mx3 u0 u2 u4 u6 t) (fdv (((2 * z) * 65536) + t) (2 * t))) (mx2 (mixL u1 u3 t) (mx2 u1 u3 u5 t) (mx3 u1 u3 u5 u7 t) (fdv (((2 * z) * 65536) + t) (2 * t))) (mixL (mx2 u0 u2 u4 t) (mx3 u0 u2 u4 u6 t) (fdv (((2 * z) * 65536) + t) (2 * t))) (mixL (mx2 u1 u3 u5 t) (mx3 u1 u3 u5 u7 t) (fdv (((2 * z) * 65536) + t) (2 * t))) (mx3 u0 u2 u4 u6 t) (mx3 u1 u3 u5 u7 t))))), (qm, .inl (cJ, 8, .inr (.inl (f8 g0'_22 g1'_23 g2'_24 g3'_25 g4'_26 g5'_27 g6'_28 g7'_29))))] := hD
    refine lv_iinc (v := 5) (lv' := [(5, .int 5), (0, .ref hm), (1, .long z), (3, .long t)]) hx hb d_M_cut_89 hl (k := 0) rfl (by first | exact nI_add _ 1 | rfl | decide) (by decide) rfl (fun ls hl => ?_)
    refine lv_goto (tgt := 68) hx hb d_M_cut_92 (by decide) ?_
    refine lv_iload hx hb d_M_cut_68 (lv_at hl 0 rfl) ?_
    refine lv_bipush (v := 8) hx hb d_M_cut_70 (by decide) ?_
    refine bn_ge (a1 := 5) (b1 := 8) (tgt := 95) hx hb (by omega) (by omega) d_M_cut_72 (by decide) (fun c_35 => ?_) (fun c_35 => ?_)
    · exact absurd c_35 (by decide)
    refine lv_aload_n hx hb d_M_cut_75 rfl (lv_at hl 1 rfl) ?_
    refine va_get (D := D) (ci := 1) (v := .ref qu) (C := R_M) (T := T_M) (N := 7) hx hb hts (ui_M _) hown hK hP 0 rfl rfl 3 (by decide) (hts _ (gwc gw_512)) (fun _ h9 => h9) rfl d_M_cut_76 ?_
    refine lv_iload hx hb d_M_cut_79 (lv_at hl 0 rfl) ?_
    refine lv_aload_n hx hb d_M_cut_81 rfl (lv_at hl 1 rfl) ?_
    refine va_get (D := D) (ci := 1) (v := .ref qh) (C := R_M) (T := T_M) (N := 7) hx hb hts (ui_M _) hown hK hP 0 rfl rfl 5 (by decide) (hts _ (gwc gw_514)) (fun _ h9 => h9) rfl d_M_cut_82 ?_
    refine lv_iload hx hb d_M_cut_85 (lv_at hl 0 rfl) ?_
    refine ld_l hx hb hK hP 3 2 rfl rfl 5 (by omega) (by omega) d_M_cut_87 ?_
    refine tp_l (mixL (mx2 u1 u3 u5 t) (mx3 u1 u3 u5 u7 t) (fdv (((2 * z) * 65536) + t) (2 * t))) (rfl) ?_
    refine sf_l (f8 (mx3 u0 (mixL u0 u2 t) (mx2 u0 u2 u4 t) (mx3 u0 u2 u4 u6 t) (fdv (((2 * z) * 65536) + t) (2 * t))) (mx3 u1 (mixL u1 u3 t) (mx2 u1 u3 u5 t) (mx3 u1 u3 u5 u7 t) (fdv (((2 * z) * 65536) + t) (2 * t))) (mx2 (mixL u0 u2 t) (mx2 u0 u2 u4 t) (mx3 u0 u2 u4 u6 t) (fdv (((2 * z) * 65536) + t) (2 * t))) (mx2 (mixL u1 u3 t) (mx2 u1 u3 u5 t) (mx3 u1 u3 u5 u7 t) (fdv (((2 * z) * 65536) + t) (2 * t))) (mixL (mx2 u0 u2 u4 t) (mx3 u0 u2 u4 u6 t) (fdv (((2 * z) * 65536) + t) (2 * t))) (mixL (mx2 u1 u3 u5 t) (mx3 u1 u3 u5 u7 t) (fdv (((2 * z) * 65536) + t) (2 * t))) (mx3 u0 u2 u4 u6 t) (mx3 u1 u3 u5 u7 t)) hx hb hK hP hD hS 1 2 rfl rfl 5 f8_5 (by decide) (by decide) d_M_cut_88 (fun H locs hP hD hS => ?_)
    have hP : va_P D cl [(hm, .inr (1, [.ref a, .ref b, .ref qa, .ref qu, .ref qb, .ref qh, .ref qm])), (qu, .inl (cJ, 8, .inr (.inl (f8 (mx3 u0 (mixL u0 u2 t) (mx2 u0 u2 u4 t) (mx3 u0 u2 u4 u6 t) (fdv (((2 * z) * 65536) + t) (2 * t))) (mx3 u1 (mixL u1 u3 t) (mx2 u1 u3 u5 t) (mx3 u1 u3 u5 u7 t) (fdv (((2 * z) * 65536) + t) (2 * t))) (mx2 (mixL u0 u2 t) (mx2 u0 u2 u4 t) (mx3 u0 u2 u4 u6 t) (fdv (((2 * z) * 65536) + t) (2 * t))) (mx2 (mixL u1 u3 t) (mx2 u1 u3 u5 t) (mx3 u1 u3 u5 u7 t) (fdv (((2 * z) * 65536) + t) (2 * t))) (mixL (mx2 u0 u2 u4 t) (mx3 u0 u2 u4 u6 t) (fdv (((2 * z) * 65536) + t) (2 * t))) (mixL (mx2 u1 u3 u5 t) (mx3 u1 u3 u5 u7 t) (fdv (((2 * z) * 65536) + t) (2 * t))) (mx3 u0 u2 u4 u6 t) (mx3 u1 u3 u5 u7 t))))), (qb, .inl (cJ, 8, .inr (.inl (f8 u0 u1 (mixL u0 (mixL u0 u2 t) (fdv (((2 * z) * 65536) + t) (2 * t))) (mixL u1 (mixL u1 u3 t) (fdv (((2 * z) * 65536) + t) (2 * t))) (mx2 u0 (mixL u0 u2 t) (mx2 u0 u2 u4 t) (fdv (((2 * z) * 65536) + t) (2 * t))) (mx2 u1 (mixL u1 u3 t) (mx2 u1 u3 u5 t) (fdv (((2 * z) * 65536) + t) (2 * t))) (mx3 u0 (mixL u0 u2 t) (mx2 u0 u2 u4 t) (mx3 u0 u2 u4 u6 t) (fdv (((2 * z) * 65536) + t) (2 * t))) (mx3 u1 (mixL u1 u3 t) (mx2 u1 u3 u5 t) (mx3 u1 u3 u5 u7 t) (fdv (((2 * z) * 65536) + t) (2 * t))))))), (qh, .inl (cJ, 8, .inr (.inl (f8 (mx3 u0 (mixL u0 u2 t) (mx2 u0 u2 u4 t) (mx3 u0 u2 u4 u6 t) (fdv (((2 * z) * 65536) + t) (2 * t))) (mx3 u1 (mixL u1 u3 t) (mx2 u1 u3 u5 t) (mx3 u1 u3 u5 u7 t) (fdv (((2 * z) * 65536) + t) (2 * t))) (mx2 (mixL u0 u2 t) (mx2 u0 u2 u4 t) (mx3 u0 u2 u4 u6 t) (fdv (((2 * z) * 65536) + t) (2 * t))) (mx2 (mixL u1 u3 t) (mx2 u1 u3 u5 t) (mx3 u1 u3 u5 u7 t) (fdv (((2 * z) * 65536) + t) (2 * t))) (mixL (mx2 u0 u2 u4 t) (mx3 u0 u2 u4 u6 t) (fdv (((2 * z) * 65536) + t) (2 * t))) (mixL (mx2 u1 u3 u5 t) (mx3 u1 u3 u5 u7 t) (fdv (((2 * z) * 65536) + t) (2 * t))) (mx3 u0 u2 u4 u6 t) (mx3 u1 u3 u5 u7 t))))), (qm, .inl (cJ, 8, .inr (.inl (f8 g0'_22 g1'_23 g2'_24 g3'_25 g4'_26 g5'_27 g6'_28 g7'_29))))] H := hP
    have hD : va_D A [(hm, .inr (1, [.ref a, .ref b, .ref qa, .ref qu, .ref qb, .ref qh, .ref qm])), (qu, .inl (cJ, 8, .inr (.inl (f8 (mx3 u0 (mixL u0 u2 t) (mx2 u0 u2 u4 t) (mx3 u0 u2 u4 u6 t) (fdv (((2 * z) * 65536) + t) (2 * t))) (mx3 u1 (mixL u1 u3 t) (mx2 u1 u3 u5 t) (mx3 u1 u3 u5 u7 t) (fdv (((2 * z) * 65536) + t) (2 * t))) (mx2 (mixL u0 u2 t) (mx2 u0 u2 u4 t) (mx3 u0 u2 u4 u6 t) (fdv (((2 * z) * 65536) + t) (2 * t))) (mx2 (mixL u1 u3 t) (mx2 u1 u3 u5 t) (mx3 u1 u3 u5 u7 t) (fdv (((2 * z) * 65536) + t) (2 * t))) (mixL (mx2 u0 u2 u4 t) (mx3 u0 u2 u4 u6 t) (fdv (((2 * z) * 65536) + t) (2 * t))) (mixL (mx2 u1 u3 u5 t) (mx3 u1 u3 u5 u7 t) (fdv (((2 * z) * 65536) + t) (2 * t))) (mx3 u0 u2 u4 u6 t) (mx3 u1 u3 u5 u7 t))))), (qb, .inl (cJ, 8, .inr (.inl (f8 u0 u1 (mixL u0 (mixL u0 u2 t) (fdv (((2 * z) * 65536) + t) (2 * t))) (mixL u1 (mixL u1 u3 t) (fdv (((2 * z) * 65536) + t) (2 * t))) (mx2 u0 (mixL u0 u2 t) (mx2 u0 u2 u4 t) (fdv (((2 * z) * 65536) + t) (2 * t))) (mx2 u1 (mixL u1 u3 t) (mx2 u1 u3 u5 t) (fdv (((2 * z) * 65536) + t) (2 * t))) (mx3 u0 (mixL u0 u2 t) (mx2 u0 u2 u4 t) (mx3 u0 u2 u4 u6 t) (fdv (((2 * z) * 65536) + t) (2 * t))) (mx3 u1 (mixL u1 u3 t) (mx2 u1 u3 u5 t) (mx3 u1 u3 u5 u7 t) (fdv (((2 * z) * 65536) + t) (2 * t))))))), (qh, .inl (cJ, 8, .inr (.inl (f8 (mx3 u0 (mixL u0 u2 t) (mx2 u0 u2 u4 t) (mx3 u0 u2 u4 u6 t) (fdv (((2 * z) * 65536) + t) (2 * t))) (mx3 u1 (mixL u1 u3 t) (mx2 u1 u3 u5 t) (mx3 u1 u3 u5 u7 t) (fdv (((2 * z) * 65536) + t) (2 * t))) (mx2 (mixL u0 u2 t) (mx2 u0 u2 u4 t) (mx3 u0 u2 u4 u6 t) (fdv (((2 * z) * 65536) + t) (2 * t))) (mx2 (mixL u1 u3 t) (mx2 u1 u3 u5 t) (mx3 u1 u3 u5 u7 t) (fdv (((2 * z) * 65536) + t) (2 * t))) (mixL (mx2 u0 u2 u4 t) (mx3 u0 u2 u4 u6 t) (fdv (((2 * z) * 65536) + t) (2 * t))) (mixL (mx2 u1 u3 u5 t) (mx3 u1 u3 u5 u7 t) (fdv (((2 * z) * 65536) + t) (2 * t))) (mx3 u0 u2 u4 u6 t) (mx3 u1 u3 u5 u7 t))))), (qm, .inl (cJ, 8, .inr (.inl (f8 g0'_22 g1'_23 g2'_24 g3'_25 g4'_26 g5'_27 g6'_28 g7'_29))))] := hD
    refine lv_iinc (v := 6) (lv' := [(5, .int 6), (0, .ref hm), (1, .long z), (3, .long t)]) hx hb d_M_cut_89 hl (k := 0) rfl (by first | exact nI_add _ 1 | rfl | decide) (by decide) rfl (fun ls hl => ?_)
    refine lv_goto (tgt := 68) hx hb d_M_cut_92 (by decide) ?_
    refine lv_iload hx hb d_M_cut_68 (lv_at hl 0 rfl) ?_
    refine lv_bipush (v := 8) hx hb d_M_cut_70 (by decide) ?_
    refine bn_ge (a1 := 6) (b1 := 8) (tgt := 95) hx hb (by omega) (by omega) d_M_cut_72 (by decide) (fun c_36 => ?_) (fun c_36 => ?_)
    · exact absurd c_36 (by decide)
    refine lv_aload_n hx hb d_M_cut_75 rfl (lv_at hl 1 rfl) ?_
    refine va_get (D := D) (ci := 1) (v := .ref qu) (C := R_M) (T := T_M) (N := 7) hx hb hts (ui_M _) hown hK hP 0 rfl rfl 3 (by decide) (hts _ (gwc gw_512)) (fun _ h9 => h9) rfl d_M_cut_76 ?_
    refine lv_iload hx hb d_M_cut_79 (lv_at hl 0 rfl) ?_
    refine lv_aload_n hx hb d_M_cut_81 rfl (lv_at hl 1 rfl) ?_
    refine va_get (D := D) (ci := 1) (v := .ref qh) (C := R_M) (T := T_M) (N := 7) hx hb hts (ui_M _) hown hK hP 0 rfl rfl 5 (by decide) (hts _ (gwc gw_514)) (fun _ h9 => h9) rfl d_M_cut_82 ?_
    refine lv_iload hx hb d_M_cut_85 (lv_at hl 0 rfl) ?_
    refine ld_l hx hb hK hP 3 2 rfl rfl 6 (by omega) (by omega) d_M_cut_87 ?_
    refine tp_l (mx3 u0 u2 u4 u6 t) (rfl) ?_
    refine sf_l (f8 (mx3 u0 (mixL u0 u2 t) (mx2 u0 u2 u4 t) (mx3 u0 u2 u4 u6 t) (fdv (((2 * z) * 65536) + t) (2 * t))) (mx3 u1 (mixL u1 u3 t) (mx2 u1 u3 u5 t) (mx3 u1 u3 u5 u7 t) (fdv (((2 * z) * 65536) + t) (2 * t))) (mx2 (mixL u0 u2 t) (mx2 u0 u2 u4 t) (mx3 u0 u2 u4 u6 t) (fdv (((2 * z) * 65536) + t) (2 * t))) (mx2 (mixL u1 u3 t) (mx2 u1 u3 u5 t) (mx3 u1 u3 u5 u7 t) (fdv (((2 * z) * 65536) + t) (2 * t))) (mixL (mx2 u0 u2 u4 t) (mx3 u0 u2 u4 u6 t) (fdv (((2 * z) * 65536) + t) (2 * t))) (mixL (mx2 u1 u3 u5 t) (mx3 u1 u3 u5 u7 t) (fdv (((2 * z) * 65536) + t) (2 * t))) (mx3 u0 u2 u4 u6 t) (mx3 u1 u3 u5 u7 t)) hx hb hK hP hD hS 1 2 rfl rfl 6 f8_6 (by decide) (by decide) d_M_cut_88 (fun H locs hP hD hS => ?_)
    have hP : va_P D cl [(hm, .inr (1, [.ref a, .ref b, .ref qa, .ref qu, .ref qb, .ref qh, .ref qm])), (qu, .inl (cJ, 8, .inr (.inl (f8 (mx3 u0 (mixL u0 u2 t) (mx2 u0 u2 u4 t) (mx3 u0 u2 u4 u6 t) (fdv (((2 * z) * 65536) + t) (2 * t))) (mx3 u1 (mixL u1 u3 t) (mx2 u1 u3 u5 t) (mx3 u1 u3 u5 u7 t) (fdv (((2 * z) * 65536) + t) (2 * t))) (mx2 (mixL u0 u2 t) (mx2 u0 u2 u4 t) (mx3 u0 u2 u4 u6 t) (fdv (((2 * z) * 65536) + t) (2 * t))) (mx2 (mixL u1 u3 t) (mx2 u1 u3 u5 t) (mx3 u1 u3 u5 u7 t) (fdv (((2 * z) * 65536) + t) (2 * t))) (mixL (mx2 u0 u2 u4 t) (mx3 u0 u2 u4 u6 t) (fdv (((2 * z) * 65536) + t) (2 * t))) (mixL (mx2 u1 u3 u5 t) (mx3 u1 u3 u5 u7 t) (fdv (((2 * z) * 65536) + t) (2 * t))) (mx3 u0 u2 u4 u6 t) (mx3 u1 u3 u5 u7 t))))), (qb, .inl (cJ, 8, .inr (.inl (f8 u0 u1 (mixL u0 (mixL u0 u2 t) (fdv (((2 * z) * 65536) + t) (2 * t))) (mixL u1 (mixL u1 u3 t) (fdv (((2 * z) * 65536) + t) (2 * t))) (mx2 u0 (mixL u0 u2 t) (mx2 u0 u2 u4 t) (fdv (((2 * z) * 65536) + t) (2 * t))) (mx2 u1 (mixL u1 u3 t) (mx2 u1 u3 u5 t) (fdv (((2 * z) * 65536) + t) (2 * t))) (mx3 u0 (mixL u0 u2 t) (mx2 u0 u2 u4 t) (mx3 u0 u2 u4 u6 t) (fdv (((2 * z) * 65536) + t) (2 * t))) (mx3 u1 (mixL u1 u3 t) (mx2 u1 u3 u5 t) (mx3 u1 u3 u5 u7 t) (fdv (((2 * z) * 65536) + t) (2 * t))))))), (qh, .inl (cJ, 8, .inr (.inl (f8 (mx3 u0 (mixL u0 u2 t) (mx2 u0 u2 u4 t) (mx3 u0 u2 u4 u6 t) (fdv (((2 * z) * 65536) + t) (2 * t))) (mx3 u1 (mixL u1 u3 t) (mx2 u1 u3 u5 t) (mx3 u1 u3 u5 u7 t) (fdv (((2 * z) * 65536) + t) (2 * t))) (mx2 (mixL u0 u2 t) (mx2 u0 u2 u4 t) (mx3 u0 u2 u4 u6 t) (fdv (((2 * z) * 65536) + t) (2 * t))) (mx2 (mixL u1 u3 t) (mx2 u1 u3 u5 t) (mx3 u1 u3 u5 u7 t) (fdv (((2 * z) * 65536) + t) (2 * t))) (mixL (mx2 u0 u2 u4 t) (mx3 u0 u2 u4 u6 t) (fdv (((2 * z) * 65536) + t) (2 * t))) (mixL (mx2 u1 u3 u5 t) (mx3 u1 u3 u5 u7 t) (fdv (((2 * z) * 65536) + t) (2 * t))) (mx3 u0 u2 u4 u6 t) (mx3 u1 u3 u5 u7 t))))), (qm, .inl (cJ, 8, .inr (.inl (f8 g0'_22 g1'_23 g2'_24 g3'_25 g4'_26 g5'_27 g6'_28 g7'_29))))] H := hP
    have hD : va_D A [(hm, .inr (1, [.ref a, .ref b, .ref qa, .ref qu, .ref qb, .ref qh, .ref qm])), (qu, .inl (cJ, 8, .inr (.inl (f8 (mx3 u0 (mixL u0 u2 t) (mx2 u0 u2 u4 t) (mx3 u0 u2 u4 u6 t) (fdv (((2 * z) * 65536) + t) (2 * t))) (mx3 u1 (mixL u1 u3 t) (mx2 u1 u3 u5 t) (mx3 u1 u3 u5 u7 t) (fdv (((2 * z) * 65536) + t) (2 * t))) (mx2 (mixL u0 u2 t) (mx2 u0 u2 u4 t) (mx3 u0 u2 u4 u6 t) (fdv (((2 * z) * 65536) + t) (2 * t))) (mx2 (mixL u1 u3 t) (mx2 u1 u3 u5 t) (mx3 u1 u3 u5 u7 t) (fdv (((2 * z) * 65536) + t) (2 * t))) (mixL (mx2 u0 u2 u4 t) (mx3 u0 u2 u4 u6 t) (fdv (((2 * z) * 65536) + t) (2 * t))) (mixL (mx2 u1 u3 u5 t) (mx3 u1 u3 u5 u7 t) (fdv (((2 * z) * 65536) + t) (2 * t))) (mx3 u0 u2 u4 u6 t) (mx3 u1 u3 u5 u7 t))))), (qb, .inl (cJ, 8, .inr (.inl (f8 u0 u1 (mixL u0 (mixL u0 u2 t) (fdv (((2 * z) * 65536) + t) (2 * t))) (mixL u1 (mixL u1 u3 t) (fdv (((2 * z) * 65536) + t) (2 * t))) (mx2 u0 (mixL u0 u2 t) (mx2 u0 u2 u4 t) (fdv (((2 * z) * 65536) + t) (2 * t))) (mx2 u1 (mixL u1 u3 t) (mx2 u1 u3 u5 t) (fdv (((2 * z) * 65536) + t) (2 * t))) (mx3 u0 (mixL u0 u2 t) (mx2 u0 u2 u4 t) (mx3 u0 u2 u4 u6 t) (fdv (((2 * z) * 65536) + t) (2 * t))) (mx3 u1 (mixL u1 u3 t) (mx2 u1 u3 u5 t) (mx3 u1 u3 u5 u7 t) (fdv (((2 * z) * 65536) + t) (2 * t))))))), (qh, .inl (cJ, 8, .inr (.inl (f8 (mx3 u0 (mixL u0 u2 t) (mx2 u0 u2 u4 t) (mx3 u0 u2 u4 u6 t) (fdv (((2 * z) * 65536) + t) (2 * t))) (mx3 u1 (mixL u1 u3 t) (mx2 u1 u3 u5 t) (mx3 u1 u3 u5 u7 t) (fdv (((2 * z) * 65536) + t) (2 * t))) (mx2 (mixL u0 u2 t) (mx2 u0 u2 u4 t) (mx3 u0 u2 u4 u6 t) (fdv (((2 * z) * 65536) + t) (2 * t))) (mx2 (mixL u1 u3 t) (mx2 u1 u3 u5 t) (mx3 u1 u3 u5 u7 t) (fdv (((2 * z) * 65536) + t) (2 * t))) (mixL (mx2 u0 u2 u4 t) (mx3 u0 u2 u4 u6 t) (fdv (((2 * z) * 65536) + t) (2 * t))) (mixL (mx2 u1 u3 u5 t) (mx3 u1 u3 u5 u7 t) (fdv (((2 * z) * 65536) + t) (2 * t))) (mx3 u0 u2 u4 u6 t) (mx3 u1 u3 u5 u7 t))))), (qm, .inl (cJ, 8, .inr (.inl (f8 g0'_22 g1'_23 g2'_24 g3'_25 g4'_26 g5'_27 g6'_28 g7'_29))))] := hD
    refine lv_iinc (v := 7) (lv' := [(5, .int 7), (0, .ref hm), (1, .long z), (3, .long t)]) hx hb d_M_cut_89 hl (k := 0) rfl (by first | exact nI_add _ 1 | rfl | decide) (by decide) rfl (fun ls hl => ?_)
    refine lv_goto (tgt := 68) hx hb d_M_cut_92 (by decide) ?_
    refine lv_iload hx hb d_M_cut_68 (lv_at hl 0 rfl) ?_
    refine lv_bipush (v := 8) hx hb d_M_cut_70 (by decide) ?_
    refine bn_ge (a1 := 7) (b1 := 8) (tgt := 95) hx hb (by omega) (by omega) d_M_cut_72 (by decide) (fun c_37 => ?_) (fun c_37 => ?_)
    · exact absurd c_37 (by decide)
    refine lv_aload_n hx hb d_M_cut_75 rfl (lv_at hl 1 rfl) ?_
    refine va_get (D := D) (ci := 1) (v := .ref qu) (C := R_M) (T := T_M) (N := 7) hx hb hts (ui_M _) hown hK hP 0 rfl rfl 3 (by decide) (hts _ (gwc gw_512)) (fun _ h9 => h9) rfl d_M_cut_76 ?_
    refine lv_iload hx hb d_M_cut_79 (lv_at hl 0 rfl) ?_
    refine lv_aload_n hx hb d_M_cut_81 rfl (lv_at hl 1 rfl) ?_
    refine va_get (D := D) (ci := 1) (v := .ref qh) (C := R_M) (T := T_M) (N := 7) hx hb hts (ui_M _) hown hK hP 0 rfl rfl 5 (by decide) (hts _ (gwc gw_514)) (fun _ h9 => h9) rfl d_M_cut_82 ?_
    refine lv_iload hx hb d_M_cut_85 (lv_at hl 0 rfl) ?_
    refine ld_l hx hb hK hP 3 2 rfl rfl 7 (by omega) (by omega) d_M_cut_87 ?_
    refine tp_l (mx3 u1 u3 u5 u7 t) (rfl) ?_
    refine sf_l (f8 (mx3 u0 (mixL u0 u2 t) (mx2 u0 u2 u4 t) (mx3 u0 u2 u4 u6 t) (fdv (((2 * z) * 65536) + t) (2 * t))) (mx3 u1 (mixL u1 u3 t) (mx2 u1 u3 u5 t) (mx3 u1 u3 u5 u7 t) (fdv (((2 * z) * 65536) + t) (2 * t))) (mx2 (mixL u0 u2 t) (mx2 u0 u2 u4 t) (mx3 u0 u2 u4 u6 t) (fdv (((2 * z) * 65536) + t) (2 * t))) (mx2 (mixL u1 u3 t) (mx2 u1 u3 u5 t) (mx3 u1 u3 u5 u7 t) (fdv (((2 * z) * 65536) + t) (2 * t))) (mixL (mx2 u0 u2 u4 t) (mx3 u0 u2 u4 u6 t) (fdv (((2 * z) * 65536) + t) (2 * t))) (mixL (mx2 u1 u3 u5 t) (mx3 u1 u3 u5 u7 t) (fdv (((2 * z) * 65536) + t) (2 * t))) (mx3 u0 u2 u4 u6 t) (mx3 u1 u3 u5 u7 t)) hx hb hK hP hD hS 1 2 rfl rfl 7 f8_7 (by decide) (by decide) d_M_cut_88 (fun H locs hP hD hS => ?_)
    have hP : va_P D cl [(hm, .inr (1, [.ref a, .ref b, .ref qa, .ref qu, .ref qb, .ref qh, .ref qm])), (qu, .inl (cJ, 8, .inr (.inl (f8 (mx3 u0 (mixL u0 u2 t) (mx2 u0 u2 u4 t) (mx3 u0 u2 u4 u6 t) (fdv (((2 * z) * 65536) + t) (2 * t))) (mx3 u1 (mixL u1 u3 t) (mx2 u1 u3 u5 t) (mx3 u1 u3 u5 u7 t) (fdv (((2 * z) * 65536) + t) (2 * t))) (mx2 (mixL u0 u2 t) (mx2 u0 u2 u4 t) (mx3 u0 u2 u4 u6 t) (fdv (((2 * z) * 65536) + t) (2 * t))) (mx2 (mixL u1 u3 t) (mx2 u1 u3 u5 t) (mx3 u1 u3 u5 u7 t) (fdv (((2 * z) * 65536) + t) (2 * t))) (mixL (mx2 u0 u2 u4 t) (mx3 u0 u2 u4 u6 t) (fdv (((2 * z) * 65536) + t) (2 * t))) (mixL (mx2 u1 u3 u5 t) (mx3 u1 u3 u5 u7 t) (fdv (((2 * z) * 65536) + t) (2 * t))) (mx3 u0 u2 u4 u6 t) (mx3 u1 u3 u5 u7 t))))), (qb, .inl (cJ, 8, .inr (.inl (f8 u0 u1 (mixL u0 (mixL u0 u2 t) (fdv (((2 * z) * 65536) + t) (2 * t))) (mixL u1 (mixL u1 u3 t) (fdv (((2 * z) * 65536) + t) (2 * t))) (mx2 u0 (mixL u0 u2 t) (mx2 u0 u2 u4 t) (fdv (((2 * z) * 65536) + t) (2 * t))) (mx2 u1 (mixL u1 u3 t) (mx2 u1 u3 u5 t) (fdv (((2 * z) * 65536) + t) (2 * t))) (mx3 u0 (mixL u0 u2 t) (mx2 u0 u2 u4 t) (mx3 u0 u2 u4 u6 t) (fdv (((2 * z) * 65536) + t) (2 * t))) (mx3 u1 (mixL u1 u3 t) (mx2 u1 u3 u5 t) (mx3 u1 u3 u5 u7 t) (fdv (((2 * z) * 65536) + t) (2 * t))))))), (qh, .inl (cJ, 8, .inr (.inl (f8 (mx3 u0 (mixL u0 u2 t) (mx2 u0 u2 u4 t) (mx3 u0 u2 u4 u6 t) (fdv (((2 * z) * 65536) + t) (2 * t))) (mx3 u1 (mixL u1 u3 t) (mx2 u1 u3 u5 t) (mx3 u1 u3 u5 u7 t) (fdv (((2 * z) * 65536) + t) (2 * t))) (mx2 (mixL u0 u2 t) (mx2 u0 u2 u4 t) (mx3 u0 u2 u4 u6 t) (fdv (((2 * z) * 65536) + t) (2 * t))) (mx2 (mixL u1 u3 t) (mx2 u1 u3 u5 t) (mx3 u1 u3 u5 u7 t) (fdv (((2 * z) * 65536) + t) (2 * t))) (mixL (mx2 u0 u2 u4 t) (mx3 u0 u2 u4 u6 t) (fdv (((2 * z) * 65536) + t) (2 * t))) (mixL (mx2 u1 u3 u5 t) (mx3 u1 u3 u5 u7 t) (fdv (((2 * z) * 65536) + t) (2 * t))) (mx3 u0 u2 u4 u6 t) (mx3 u1 u3 u5 u7 t))))), (qm, .inl (cJ, 8, .inr (.inl (f8 g0'_22 g1'_23 g2'_24 g3'_25 g4'_26 g5'_27 g6'_28 g7'_29))))] H := hP
    have hD : va_D A [(hm, .inr (1, [.ref a, .ref b, .ref qa, .ref qu, .ref qb, .ref qh, .ref qm])), (qu, .inl (cJ, 8, .inr (.inl (f8 (mx3 u0 (mixL u0 u2 t) (mx2 u0 u2 u4 t) (mx3 u0 u2 u4 u6 t) (fdv (((2 * z) * 65536) + t) (2 * t))) (mx3 u1 (mixL u1 u3 t) (mx2 u1 u3 u5 t) (mx3 u1 u3 u5 u7 t) (fdv (((2 * z) * 65536) + t) (2 * t))) (mx2 (mixL u0 u2 t) (mx2 u0 u2 u4 t) (mx3 u0 u2 u4 u6 t) (fdv (((2 * z) * 65536) + t) (2 * t))) (mx2 (mixL u1 u3 t) (mx2 u1 u3 u5 t) (mx3 u1 u3 u5 u7 t) (fdv (((2 * z) * 65536) + t) (2 * t))) (mixL (mx2 u0 u2 u4 t) (mx3 u0 u2 u4 u6 t) (fdv (((2 * z) * 65536) + t) (2 * t))) (mixL (mx2 u1 u3 u5 t) (mx3 u1 u3 u5 u7 t) (fdv (((2 * z) * 65536) + t) (2 * t))) (mx3 u0 u2 u4 u6 t) (mx3 u1 u3 u5 u7 t))))), (qb, .inl (cJ, 8, .inr (.inl (f8 u0 u1 (mixL u0 (mixL u0 u2 t) (fdv (((2 * z) * 65536) + t) (2 * t))) (mixL u1 (mixL u1 u3 t) (fdv (((2 * z) * 65536) + t) (2 * t))) (mx2 u0 (mixL u0 u2 t) (mx2 u0 u2 u4 t) (fdv (((2 * z) * 65536) + t) (2 * t))) (mx2 u1 (mixL u1 u3 t) (mx2 u1 u3 u5 t) (fdv (((2 * z) * 65536) + t) (2 * t))) (mx3 u0 (mixL u0 u2 t) (mx2 u0 u2 u4 t) (mx3 u0 u2 u4 u6 t) (fdv (((2 * z) * 65536) + t) (2 * t))) (mx3 u1 (mixL u1 u3 t) (mx2 u1 u3 u5 t) (mx3 u1 u3 u5 u7 t) (fdv (((2 * z) * 65536) + t) (2 * t))))))), (qh, .inl (cJ, 8, .inr (.inl (f8 (mx3 u0 (mixL u0 u2 t) (mx2 u0 u2 u4 t) (mx3 u0 u2 u4 u6 t) (fdv (((2 * z) * 65536) + t) (2 * t))) (mx3 u1 (mixL u1 u3 t) (mx2 u1 u3 u5 t) (mx3 u1 u3 u5 u7 t) (fdv (((2 * z) * 65536) + t) (2 * t))) (mx2 (mixL u0 u2 t) (mx2 u0 u2 u4 t) (mx3 u0 u2 u4 u6 t) (fdv (((2 * z) * 65536) + t) (2 * t))) (mx2 (mixL u1 u3 t) (mx2 u1 u3 u5 t) (mx3 u1 u3 u5 u7 t) (fdv (((2 * z) * 65536) + t) (2 * t))) (mixL (mx2 u0 u2 u4 t) (mx3 u0 u2 u4 u6 t) (fdv (((2 * z) * 65536) + t) (2 * t))) (mixL (mx2 u1 u3 u5 t) (mx3 u1 u3 u5 u7 t) (fdv (((2 * z) * 65536) + t) (2 * t))) (mx3 u0 u2 u4 u6 t) (mx3 u1 u3 u5 u7 t))))), (qm, .inl (cJ, 8, .inr (.inl (f8 g0'_22 g1'_23 g2'_24 g3'_25 g4'_26 g5'_27 g6'_28 g7'_29))))] := hD
    refine lv_iinc (v := 8) (lv' := [(5, .int 8), (0, .ref hm), (1, .long z), (3, .long t)]) hx hb d_M_cut_89 hl (k := 0) rfl (by first | exact nI_add _ 1 | rfl | decide) (by decide) rfl (fun ls hl => ?_)
    refine lv_goto (tgt := 68) hx hb d_M_cut_92 (by decide) ?_
    refine lv_iload hx hb d_M_cut_68 (lv_at hl 0 rfl) ?_
    refine lv_bipush (v := 8) hx hb d_M_cut_70 (by decide) ?_
    refine bn_ge (a1 := 8) (b1 := 8) (tgt := 95) hx hb (by omega) (by omega) d_M_cut_72 (by decide) (fun c_38 => ?_) (fun c_38 => ?_)
    rotate_left
    · exact absurd c_38 (by decide)
    exact ct_retv hQ hx hb hr hlocks hP hD hS (mx3 u0 (mixL u0 u2 t) (mx2 u0 u2 u4 t) (mx3 u0 u2 u4 u6 t) (fdv (((2 * z) * 65536) + t) (2 * t)), mx3 u1 (mixL u1 u3 t) (mx2 u1 u3 u5 t) (mx3 u1 u3 u5 u7 t) (fdv (((2 * z) * 65536) + t) (2 * t)), mx2 (mixL u0 u2 t) (mx2 u0 u2 u4 t) (mx3 u0 u2 u4 u6 t) (fdv (((2 * z) * 65536) + t) (2 * t)), mx2 (mixL u1 u3 t) (mx2 u1 u3 u5 t) (mx3 u1 u3 u5 u7 t) (fdv (((2 * z) * 65536) + t) (2 * t)), mixL (mx2 u0 u2 u4 t) (mx3 u0 u2 u4 u6 t) (fdv (((2 * z) * 65536) + t) (2 * t)), mixL (mx2 u1 u3 u5 t) (mx3 u1 u3 u5 u7 t) (fdv (((2 * z) * 65536) + t) (2 * t)), mx3 u0 u2 u4 u6 t, mx3 u1 u3 u5 u7 t, u0, u1, mixL u0 (mixL u0 u2 t) (fdv (((2 * z) * 65536) + t) (2 * t)), mixL u1 (mixL u1 u3 t) (fdv (((2 * z) * 65536) + t) (2 * t)), mx2 u0 (mixL u0 u2 t) (mx2 u0 u2 u4 t) (fdv (((2 * z) * 65536) + t) (2 * t)), mx2 u1 (mixL u1 u3 t) (mx2 u1 u3 u5 t) (fdv (((2 * z) * 65536) + t) (2 * t)), mx3 u0 (mixL u0 u2 t) (mx2 u0 u2 u4 t) (mx3 u0 u2 u4 u6 t) (fdv (((2 * z) * 65536) + t) (2 * t)), mx3 u1 (mixL u1 u3 t) (mx2 u1 u3 u5 t) (mx3 u1 u3 u5 u7 t) (fdv (((2 * z) * 65536) + t) (2 * t)), mx3 u0 (mixL u0 u2 t) (mx2 u0 u2 u4 t) (mx3 u0 u2 u4 u6 t) (fdv (((2 * z) * 65536) + t) (2 * t)), mx3 u1 (mixL u1 u3 t) (mx2 u1 u3 u5 t) (mx3 u1 u3 u5 u7 t) (fdv (((2 * z) * 65536) + t) (2 * t)), mx2 (mixL u0 u2 t) (mx2 u0 u2 u4 t) (mx3 u0 u2 u4 u6 t) (fdv (((2 * z) * 65536) + t) (2 * t)), mx2 (mixL u1 u3 t) (mx2 u1 u3 u5 t) (mx3 u1 u3 u5 u7 t) (fdv (((2 * z) * 65536) + t) (2 * t)), mixL (mx2 u0 u2 u4 t) (mx3 u0 u2 u4 u6 t) (fdv (((2 * z) * 65536) + t) (2 * t)), mixL (mx2 u1 u3 u5 t) (mx3 u1 u3 u5 u7 t) (fdv (((2 * z) * 65536) + t) (2 * t)), mx3 u0 u2 u4 u6 t, mx3 u1 u3 u5 u7 t, g0'_22, g1'_23, g2'_24, g3'_25, g4'_26, g5'_27, g6'_28, g7'_29) [(hm, .inr (1, [.ref a, .ref b, .ref qa, .ref qu, .ref qb, .ref qh, .ref qm])), (qu, .inl (cJ, 8, .inr (.inl (f8 (mx3 u0 (mixL u0 u2 t) (mx2 u0 u2 u4 t) (mx3 u0 u2 u4 u6 t) (fdv (((2 * z) * 65536) + t) (2 * t))) (mx3 u1 (mixL u1 u3 t) (mx2 u1 u3 u5 t) (mx3 u1 u3 u5 u7 t) (fdv (((2 * z) * 65536) + t) (2 * t))) (mx2 (mixL u0 u2 t) (mx2 u0 u2 u4 t) (mx3 u0 u2 u4 u6 t) (fdv (((2 * z) * 65536) + t) (2 * t))) (mx2 (mixL u1 u3 t) (mx2 u1 u3 u5 t) (mx3 u1 u3 u5 u7 t) (fdv (((2 * z) * 65536) + t) (2 * t))) (mixL (mx2 u0 u2 u4 t) (mx3 u0 u2 u4 u6 t) (fdv (((2 * z) * 65536) + t) (2 * t))) (mixL (mx2 u1 u3 u5 t) (mx3 u1 u3 u5 u7 t) (fdv (((2 * z) * 65536) + t) (2 * t))) (mx3 u0 u2 u4 u6 t) (mx3 u1 u3 u5 u7 t))))), (qb, .inl (cJ, 8, .inr (.inl (f8 u0 u1 (mixL u0 (mixL u0 u2 t) (fdv (((2 * z) * 65536) + t) (2 * t))) (mixL u1 (mixL u1 u3 t) (fdv (((2 * z) * 65536) + t) (2 * t))) (mx2 u0 (mixL u0 u2 t) (mx2 u0 u2 u4 t) (fdv (((2 * z) * 65536) + t) (2 * t))) (mx2 u1 (mixL u1 u3 t) (mx2 u1 u3 u5 t) (fdv (((2 * z) * 65536) + t) (2 * t))) (mx3 u0 (mixL u0 u2 t) (mx2 u0 u2 u4 t) (mx3 u0 u2 u4 u6 t) (fdv (((2 * z) * 65536) + t) (2 * t))) (mx3 u1 (mixL u1 u3 t) (mx2 u1 u3 u5 t) (mx3 u1 u3 u5 u7 t) (fdv (((2 * z) * 65536) + t) (2 * t))))))), (qh, .inl (cJ, 8, .inr (.inl (f8 (mx3 u0 (mixL u0 u2 t) (mx2 u0 u2 u4 t) (mx3 u0 u2 u4 u6 t) (fdv (((2 * z) * 65536) + t) (2 * t))) (mx3 u1 (mixL u1 u3 t) (mx2 u1 u3 u5 t) (mx3 u1 u3 u5 u7 t) (fdv (((2 * z) * 65536) + t) (2 * t))) (mx2 (mixL u0 u2 t) (mx2 u0 u2 u4 t) (mx3 u0 u2 u4 u6 t) (fdv (((2 * z) * 65536) + t) (2 * t))) (mx2 (mixL u1 u3 t) (mx2 u1 u3 u5 t) (mx3 u1 u3 u5 u7 t) (fdv (((2 * z) * 65536) + t) (2 * t))) (mixL (mx2 u0 u2 u4 t) (mx3 u0 u2 u4 u6 t) (fdv (((2 * z) * 65536) + t) (2 * t))) (mixL (mx2 u1 u3 u5 t) (mx3 u1 u3 u5 u7 t) (fdv (((2 * z) * 65536) + t) (2 * t))) (mx3 u0 u2 u4 u6 t) (mx3 u1 u3 u5 u7 t))))), (qm, .inl (cJ, 8, .inr (.inl (f8 g0'_22 g1'_23 g2'_24 g3'_25 g4'_26 g5'_27 g6'_28 g7'_29))))] [0, 1, 2, 3, 4] (rfl) (by rw [cut8, if_neg c_19]; rfl) (rfl) rfl rfl (by omega) (by omega) d_M_cut_95
  · skip
    exact ct_retv hQ hx hb hr hlocks hP hD hS (u0, u1, mixL u0 u2 t, mixL u1 u3 t, mx2 u0 u2 u4 t, mx2 u1 u3 u5 t, mx3 u0 u2 u4 u6 t, mx3 u1 u3 u5 u7 t, u0, u1, mixL u0 u2 t, mixL u1 u3 t, mx2 u0 u2 u4 t, mx2 u1 u3 u5 t, mx3 u0 u2 u4 u6 t, mx3 u1 u3 u5 u7 t, mx3 u0 u2 u4 u6 t, mx3 u1 u3 u5 u7 t, mx2 u2 u4 u6 t, mx2 u3 u5 u7 t, mixL u4 u6 t, mixL u5 u7 t, u6, u7, g0'_2, g1'_3, g2'_4, g3'_5, g4'_6, g5'_7, g6'_8, g7'_9) [(hm, .inr (1, [.ref a, .ref b, .ref qa, .ref qu, .ref qb, .ref qh, .ref qm])), (qu, .inl (cJ, 8, .inr (.inl (f8 u0 u1 (mixL u0 u2 t) (mixL u1 u3 t) (mx2 u0 u2 u4 t) (mx2 u1 u3 u5 t) (mx3 u0 u2 u4 u6 t) (mx3 u1 u3 u5 u7 t))))), (qb, .inl (cJ, 8, .inr (.inl (f8 u0 u1 (mixL u0 u2 t) (mixL u1 u3 t) (mx2 u0 u2 u4 t) (mx2 u1 u3 u5 t) (mx3 u0 u2 u4 u6 t) (mx3 u1 u3 u5 u7 t))))), (qh, .inl (cJ, 8, .inr (.inl (f8 (mx3 u0 u2 u4 u6 t) (mx3 u1 u3 u5 u7 t) (mx2 u2 u4 u6 t) (mx2 u3 u5 u7 t) (mixL u4 u6 t) (mixL u5 u7 t) u6 u7)))), (qm, .inl (cJ, 8, .inr (.inl (f8 g0'_2 g1'_3 g2'_4 g3'_5 g4'_6 g5'_7 g6'_8 g7'_9))))] [0, 1, 2, 3, 4] (rfl) (by rw [cut8, if_pos c_19]; rfl) (rfl) rfl rfl (by omega) (by omega) d_M_cut_41
set_option maxHeartbeats 4000000 in
set_option maxRecDepth 100000 in
/-- axes -/
theorem c_M_axes (l : Launch) (D : va_G) (cI cB cJ : ClassId) (qQ : Nat) (hm : Nat) (a : Nat) (b : Nat) (qa : Nat) (qu : Nat) (qb : Nat) (qh : Nat) (qm : Nat) (ax0 : Int64) (ax1 : Int64) (ax2 : Int64) (ax3 : Int64) (p_ : Int32) (q_ : Int32) (r_ : Int32) (s_ : Int32)  : ct l D cl [(cI, .int), (cB, .byte), (cJ, .long)] (amb qQ) y_M_axes w_M_axes 1 21 (0) (0) [.ref hm, .int p_, .int q_, .int r_, .int s_] [(hm, .inr (1, [.ref a, .ref b, .ref qa, .ref qu, .ref qb, .ref qh, .ref qm])), (qa, .inl (cJ, 4, .inr (.inl (f4 ax0 ax1 ax2 ax3))))] (fun u_ : Bool × Int64 × Int64 × Int64 × Int64 => match u_ with | (r, ax0', ax1', ax2', ax3') => (r, (ax0', ax1', ax2', ax3')) = rAxes (ax0, ax1, ax2, ax3) p_ q_ r_ s_) (fun u_ : Bool × Int64 × Int64 × Int64 × Int64 => match u_ with | (r, ax0', ax1', ax2', ax3') => some (.int (bz r))) (fun u_ : Bool × Int64 × Int64 × Int64 × Int64 => match u_ with | (r, ax0', ax1', ax2', ax3') => [(hm, .inr (1, [.ref a, .ref b, .ref qa, .ref qu, .ref qb, .ref qh, .ref qm])), (qa, .inl (cJ, 4, .inr (.inl (f4 ax0' ax1' ax2' ax3'))))]) := by
  refine ct_ofW (cc := b_M_axes) (maxL := 5) (ret := (some .boolean)) (by decide) rfl (Nat.le_of_ble_eq_true rfl) ?_
  intro p e R s m args below meth c A Q ls hx hb hr hml hts hown hlocks hname hRf hRc hRs hRl hQ hK hP hD hS hA hM hl
  have hl : lv_has ls 5 [(0, .ref hm), (1, .int p_), (2, .int q_), (3, .int r_), (4, .int s_)] := hl
  refine lv_iload_n hx hb d_M_axes_0 rfl (lv_at hl 1 rfl) ?_
  refine lv_i2l (v := p_.toInt64) hx hb d_M_axes_1 rfl ?_
  refine ct_callSN (av := [.long p_.toInt64]) (rest := []) (wr := [(hm, .inr (1, [.ref a, .ref b, .ref qa, .ref qu, .ref qb, .ref qh, .ref qm])), (qa, .inl (cJ, 4, .inr (.inl (f4 ax0 ax1 ax2 ax3))))]) (n := 1) (c_MPath_isFar l D cI cB cJ qQ  p_.toInt64 ) hx hb hml hown hts (amb_ok qQ) hK hP hD hS hA hM (gi_N gw_570) rfl (amb_nw_13 hM) (hts _ (gwc gw_34)) (hts _ (gwc gw_569)) (by decide +kernel) ⟨by omega, by omega⟩ [] [0, 1] rfl rfl rfl rfl (by decide) rfl hl.1 rfl (Nat.le_of_ble_eq_true rfl) d_M_axes_2 ⟨by omega, by omega⟩ (fun u_1 H locs hok hP hD hS => ?_)
  have hP : va_P D cl [(hm, .inr (1, [.ref a, .ref b, .ref qa, .ref qu, .ref qb, .ref qh, .ref qm])), (qa, .inl (cJ, 4, .inr (.inl (f4 ax0 ax1 ax2 ax3))))] H := hP
  have hD : va_D A [(hm, .inr (1, [.ref a, .ref b, .ref qa, .ref qu, .ref qb, .ref qh, .ref qm])), (qa, .inl (cJ, 4, .inr (.inl (f4 ax0 ax1 ax2 ax3))))] := hD
  refine W.eq (g2 := F0 m 5 ls [.int (bz (fr p_.toInt64))]) rfl ?_
  refine bb_ne (tgt := 33) hx hb d_M_axes_5 (by decide) (fun c_2 => ?_) (fun c_2 => ?_)
  · skip
    refine lv_iconst (v := 0) hx hb d_M_axes_33 (by decide) ?_
    exact ct_retz hQ hx hb hr hlocks hP hD hS (false, ax0, ax1, ax2, ax3) [(hm, .inr (1, [.ref a, .ref b, .ref qa, .ref qu, .ref qb, .ref qh, .ref qm])), (qa, .inl (cJ, 4, .inr (.inl (f4 ax0 ax1 ax2 ax3))))] [0, 1] (rfl) (by simp [rAxes, c_2]) (rfl) rfl rfl (by decide) (by omega) (by omega) d_M_axes_34
  · skip
    refine lv_iload_n hx hb d_M_axes_8 rfl (lv_at hl 2 rfl) ?_
    refine lv_i2l (v := q_.toInt64) hx hb d_M_axes_9 rfl ?_
    refine ct_callSN (av := [.long q_.toInt64]) (rest := []) (wr := [(hm, .inr (1, [.ref a, .ref b, .ref qa, .ref qu, .ref qb, .ref qh, .ref qm])), (qa, .inl (cJ, 4, .inr (.inl (f4 ax0 ax1 ax2 ax3))))]) (n := 1) (c_MPath_isFar l D cI cB cJ qQ  q_.toInt64 ) hx hb hml hown hts (amb_ok qQ) hK hP hD hS hA hM (gi_N gw_570) rfl (amb_nw_13 hM) (hts _ (gwc gw_34)) (hts _ (gwc gw_569)) (by decide +kernel) ⟨by omega, by omega⟩ [] [0, 1] rfl rfl rfl rfl (by decide) rfl hl.1 rfl (Nat.le_of_ble_eq_true rfl) d_M_axes_10 ⟨by omega, by omega⟩ (fun u_3 H locs hok hP hD hS => ?_)
    have hP : va_P D cl [(hm, .inr (1, [.ref a, .ref b, .ref qa, .ref qu, .ref qb, .ref qh, .ref qm])), (qa, .inl (cJ, 4, .inr (.inl (f4 ax0 ax1 ax2 ax3))))] H := hP
    have hD : va_D A [(hm, .inr (1, [.ref a, .ref b, .ref qa, .ref qu, .ref qb, .ref qh, .ref qm])), (qa, .inl (cJ, 4, .inr (.inl (f4 ax0 ax1 ax2 ax3))))] := hD
    refine W.eq (g2 := F0 m 13 ls [.int (bz (fr q_.toInt64))]) rfl ?_
    refine bb_ne (tgt := 33) hx hb d_M_axes_13 (by decide) (fun c_4 => ?_) (fun c_4 => ?_)
    · skip
      refine lv_iconst (v := 0) hx hb d_M_axes_33 (by decide) ?_
      exact ct_retz hQ hx hb hr hlocks hP hD hS (false, ax0, ax1, ax2, ax3) [(hm, .inr (1, [.ref a, .ref b, .ref qa, .ref qu, .ref qb, .ref qh, .ref qm])), (qa, .inl (cJ, 4, .inr (.inl (f4 ax0 ax1 ax2 ax3))))] [0, 1] (rfl) (by simp [rAxes, c_2, c_4]) (rfl) rfl rfl (by decide) (by omega) (by omega) d_M_axes_34
    · skip
      refine lv_iload_n hx hb d_M_axes_16 rfl (lv_at hl 3 rfl) ?_
      refine lv_i2l (v := r_.toInt64) hx hb d_M_axes_17 rfl ?_
      refine ct_callSN (av := [.long r_.toInt64]) (rest := []) (wr := [(hm, .inr (1, [.ref a, .ref b, .ref qa, .ref qu, .ref qb, .ref qh, .ref qm])), (qa, .inl (cJ, 4, .inr (.inl (f4 ax0 ax1 ax2 ax3))))]) (n := 1) (c_MPath_isFar l D cI cB cJ qQ  r_.toInt64 ) hx hb hml hown hts (amb_ok qQ) hK hP hD hS hA hM (gi_N gw_570) rfl (amb_nw_13 hM) (hts _ (gwc gw_34)) (hts _ (gwc gw_569)) (by decide +kernel) ⟨by omega, by omega⟩ [] [0, 1] rfl rfl rfl rfl (by decide) rfl hl.1 rfl (Nat.le_of_ble_eq_true rfl) d_M_axes_18 ⟨by omega, by omega⟩ (fun u_5 H locs hok hP hD hS => ?_)
      have hP : va_P D cl [(hm, .inr (1, [.ref a, .ref b, .ref qa, .ref qu, .ref qb, .ref qh, .ref qm])), (qa, .inl (cJ, 4, .inr (.inl (f4 ax0 ax1 ax2 ax3))))] H := hP
      have hD : va_D A [(hm, .inr (1, [.ref a, .ref b, .ref qa, .ref qu, .ref qb, .ref qh, .ref qm])), (qa, .inl (cJ, 4, .inr (.inl (f4 ax0 ax1 ax2 ax3))))] := hD
      refine W.eq (g2 := F0 m 21 ls [.int (bz (fr r_.toInt64))]) rfl ?_
      refine bb_ne (tgt := 33) hx hb d_M_axes_21 (by decide) (fun c_6 => ?_) (fun c_6 => ?_)
      · skip
        refine lv_iconst (v := 0) hx hb d_M_axes_33 (by decide) ?_
        exact ct_retz hQ hx hb hr hlocks hP hD hS (false, ax0, ax1, ax2, ax3) [(hm, .inr (1, [.ref a, .ref b, .ref qa, .ref qu, .ref qb, .ref qh, .ref qm])), (qa, .inl (cJ, 4, .inr (.inl (f4 ax0 ax1 ax2 ax3))))] [0, 1] (rfl) (by simp [rAxes, c_2, c_4, c_6]) (rfl) rfl rfl (by decide) (by omega) (by omega) d_M_axes_34
      · skip
        refine lv_iload hx hb d_M_axes_24 (lv_at hl 4 rfl) ?_
        refine lv_i2l (v := s_.toInt64) hx hb d_M_axes_26 rfl ?_
        refine ct_callSN (av := [.long s_.toInt64]) (rest := []) (wr := [(hm, .inr (1, [.ref a, .ref b, .ref qa, .ref qu, .ref qb, .ref qh, .ref qm])), (qa, .inl (cJ, 4, .inr (.inl (f4 ax0 ax1 ax2 ax3))))]) (n := 1) (c_MPath_isFar l D cI cB cJ qQ  s_.toInt64 ) hx hb hml hown hts (amb_ok qQ) hK hP hD hS hA hM (gi_N gw_570) rfl (amb_nw_13 hM) (hts _ (gwc gw_34)) (hts _ (gwc gw_569)) (by decide +kernel) ⟨by omega, by omega⟩ [] [0, 1] rfl rfl rfl rfl (by decide) rfl hl.1 rfl (Nat.le_of_ble_eq_true rfl) d_M_axes_27 ⟨by omega, by omega⟩ (fun u_7 H locs hok hP hD hS => ?_)
        have hP : va_P D cl [(hm, .inr (1, [.ref a, .ref b, .ref qa, .ref qu, .ref qb, .ref qh, .ref qm])), (qa, .inl (cJ, 4, .inr (.inl (f4 ax0 ax1 ax2 ax3))))] H := hP
        have hD : va_D A [(hm, .inr (1, [.ref a, .ref b, .ref qa, .ref qu, .ref qb, .ref qh, .ref qm])), (qa, .inl (cJ, 4, .inr (.inl (f4 ax0 ax1 ax2 ax3))))] := hD
        refine W.eq (g2 := F0 m 30 ls [.int (bz (fr s_.toInt64))]) rfl ?_
        refine bb_eq (tgt := 35) hx hb d_M_axes_30 (by decide) (fun c_8 => ?_) (fun c_8 => ?_)
        · skip
          refine lv_aload_n hx hb d_M_axes_35 rfl (lv_at hl 0 rfl) ?_
          refine va_get (D := D) (ci := 1) (v := .ref qa) (C := R_M) (T := T_M) (N := 7) hx hb hts (ui_M _) hown hK hP 0 rfl rfl 2 (by decide) (hts _ (gwc gw_511)) (fun _ h9 => h9) rfl d_M_axes_36 ?_
          refine lv_iconst (v := 0) hx hb d_M_axes_39 (by decide) ?_
          refine lv_iload_n hx hb d_M_axes_40 rfl (lv_at hl 1 rfl) ?_
          refine lv_i2l (v := p_.toInt64) hx hb d_M_axes_41 rfl ?_
          refine sf_l (f4 p_.toInt64 ax1 ax2 ax3) hx hb hK hP hD hS 1 2 rfl rfl 0 f4_0 (by decide) (by decide) d_M_axes_42 (fun H locs hP hD hS => ?_)
          have hP : va_P D cl [(hm, .inr (1, [.ref a, .ref b, .ref qa, .ref qu, .ref qb, .ref qh, .ref qm])), (qa, .inl (cJ, 4, .inr (.inl (f4 p_.toInt64 ax1 ax2 ax3))))] H := hP
          have hD : va_D A [(hm, .inr (1, [.ref a, .ref b, .ref qa, .ref qu, .ref qb, .ref qh, .ref qm])), (qa, .inl (cJ, 4, .inr (.inl (f4 p_.toInt64 ax1 ax2 ax3))))] := hD
          refine lv_aload_n hx hb d_M_axes_43 rfl (lv_at hl 0 rfl) ?_
          refine va_get (D := D) (ci := 1) (v := .ref qa) (C := R_M) (T := T_M) (N := 7) hx hb hts (ui_M _) hown hK hP 0 rfl rfl 2 (by decide) (hts _ (gwc gw_511)) (fun _ h9 => h9) rfl d_M_axes_44 ?_
          refine lv_iconst (v := 1) hx hb d_M_axes_47 (by decide) ?_
          refine lv_iload_n hx hb d_M_axes_48 rfl (lv_at hl 2 rfl) ?_
          refine lv_i2l (v := q_.toInt64) hx hb d_M_axes_49 rfl ?_
          refine sf_l (f4 p_.toInt64 q_.toInt64 ax2 ax3) hx hb hK hP hD hS 1 2 rfl rfl 1 f4_1 (by decide) (by decide) d_M_axes_50 (fun H locs hP hD hS => ?_)
          have hP : va_P D cl [(hm, .inr (1, [.ref a, .ref b, .ref qa, .ref qu, .ref qb, .ref qh, .ref qm])), (qa, .inl (cJ, 4, .inr (.inl (f4 p_.toInt64 q_.toInt64 ax2 ax3))))] H := hP
          have hD : va_D A [(hm, .inr (1, [.ref a, .ref b, .ref qa, .ref qu, .ref qb, .ref qh, .ref qm])), (qa, .inl (cJ, 4, .inr (.inl (f4 p_.toInt64 q_.toInt64 ax2 ax3))))] := hD
          refine lv_aload_n hx hb d_M_axes_51 rfl (lv_at hl 0 rfl) ?_
          refine va_get (D := D) (ci := 1) (v := .ref qa) (C := R_M) (T := T_M) (N := 7) hx hb hts (ui_M _) hown hK hP 0 rfl rfl 2 (by decide) (hts _ (gwc gw_511)) (fun _ h9 => h9) rfl d_M_axes_52 ?_
          refine lv_iconst (v := 2) hx hb d_M_axes_55 (by decide) ?_
          refine lv_iload_n hx hb d_M_axes_56 rfl (lv_at hl 3 rfl) ?_
          refine lv_i2l (v := r_.toInt64) hx hb d_M_axes_57 rfl ?_
          refine sf_l (f4 p_.toInt64 q_.toInt64 r_.toInt64 ax3) hx hb hK hP hD hS 1 2 rfl rfl 2 f4_2 (by decide) (by decide) d_M_axes_58 (fun H locs hP hD hS => ?_)
          have hP : va_P D cl [(hm, .inr (1, [.ref a, .ref b, .ref qa, .ref qu, .ref qb, .ref qh, .ref qm])), (qa, .inl (cJ, 4, .inr (.inl (f4 p_.toInt64 q_.toInt64 r_.toInt64 ax3))))] H := hP
          have hD : va_D A [(hm, .inr (1, [.ref a, .ref b, .ref qa, .ref qu, .ref qb, .ref qh, .ref qm])), (qa, .inl (cJ, 4, .inr (.inl (f4 p_.toInt64 q_.toInt64 r_.toInt64 ax3))))] := hD
          refine lv_aload_n hx hb d_M_axes_59 rfl (lv_at hl 0 rfl) ?_
          refine va_get (D := D) (ci := 1) (v := .ref qa) (C := R_M) (T := T_M) (N := 7) hx hb hts (ui_M _) hown hK hP 0 rfl rfl 2 (by decide) (hts _ (gwc gw_511)) (fun _ h9 => h9) rfl d_M_axes_60 ?_
          refine lv_iconst (v := 3) hx hb d_M_axes_63 (by decide) ?_
          refine lv_iload hx hb d_M_axes_64 (lv_at hl 4 rfl) ?_
          refine lv_i2l (v := s_.toInt64) hx hb d_M_axes_66 rfl ?_
          refine sf_l (f4 p_.toInt64 q_.toInt64 r_.toInt64 s_.toInt64) hx hb hK hP hD hS 1 2 rfl rfl 3 f4_3 (by decide) (by decide) d_M_axes_67 (fun H locs hP hD hS => ?_)
          have hP : va_P D cl [(hm, .inr (1, [.ref a, .ref b, .ref qa, .ref qu, .ref qb, .ref qh, .ref qm])), (qa, .inl (cJ, 4, .inr (.inl (f4 p_.toInt64 q_.toInt64 r_.toInt64 s_.toInt64))))] H := hP
          have hD : va_D A [(hm, .inr (1, [.ref a, .ref b, .ref qa, .ref qu, .ref qb, .ref qh, .ref qm])), (qa, .inl (cJ, 4, .inr (.inl (f4 p_.toInt64 q_.toInt64 r_.toInt64 s_.toInt64))))] := hD
          refine lv_iconst (v := 1) hx hb d_M_axes_68 (by decide) ?_
          exact ct_retz hQ hx hb hr hlocks hP hD hS (true, p_.toInt64, q_.toInt64, r_.toInt64, s_.toInt64) [(hm, .inr (1, [.ref a, .ref b, .ref qa, .ref qu, .ref qb, .ref qh, .ref qm])), (qa, .inl (cJ, 4, .inr (.inl (f4 p_.toInt64 q_.toInt64 r_.toInt64 s_.toInt64))))] [0, 1] (rfl) (by simp [rAxes, c_2, c_4, c_6, c_8]) (rfl) rfl rfl (by decide) (by omega) (by omega) d_M_axes_69
        · skip
          refine lv_iconst (v := 0) hx hb d_M_axes_33 (by decide) ?_
          exact ct_retz hQ hx hb hr hlocks hP hD hS (false, ax0, ax1, ax2, ax3) [(hm, .inr (1, [.ref a, .ref b, .ref qa, .ref qu, .ref qb, .ref qh, .ref qm])), (qa, .inl (cJ, 4, .inr (.inl (f4 ax0 ax1 ax2 ax3))))] [0, 1] (rfl) (by simp [rAxes, c_2, c_4, c_6, c_8]) (rfl) rfl rfl (by decide) (by omega) (by omega) d_M_axes_34
set_option maxHeartbeats 4000000 in
set_option maxRecDepth 100000 in
/-- around -/
theorem c_M_around0 (l : Launch) (D : va_G) (cI cB cJ : ClassId) (qQ : Nat) (hm : Nat) (a : Nat) (b : Nat) (qa : Nat) (qu : Nat) (qb : Nat) (qh : Nat) (qm : Nat) (ax0 : Int64) (ax1 : Int64) (ax2 : Int64) (ax3 : Int64) (mid : Int64) (a_ : Int64) (b_ : Int64)  : ct l D cl [(cI, .int), (cB, .byte), (cJ, .long)] (amb qQ) y_M_around w_M_around 1 25 (0) (0) [.ref hm, .long mid, .long a_, .long b_, .int 0] [(hm, .inr (1, [.ref a, .ref b, .ref qa, .ref qu, .ref qb, .ref qh, .ref qm])), (qa, .inl (cJ, 4, .inr (.inl (f4 ax0 ax1 ax2 ax3))))] (fun _ : Unit => True) (fun _ : Unit => some (.long (aro mid a_ b_ ax0 ax2))) (fun _ : Unit => [(hm, .inr (1, [.ref a, .ref b, .ref qa, .ref qu, .ref qb, .ref qh, .ref qm])), (qa, .inl (cJ, 4, .inr (.inl (f4 ax0 ax1 ax2 ax3))))]) := by
  refine ct_ofW (cc := b_M_around) (maxL := 8) (ret := (some .long)) (by decide) rfl (Nat.le_of_ble_eq_true rfl) ?_
  intro p e R s m args below meth c A Q ls hx hb hr hml hts hown hlocks hname hRf hRc hRs hRl hQ hK hP hD hS hA hM hl
  have hl : lv_has ls 8 [(0, .ref hm), (1, .long mid), (3, .long a_), (5, .long b_), (7, .int 0)] := hl
  refine lv_lload_n hx hb d_M_around_0 rfl (lv_at hl 1 rfl) ?_
  refine lv_lload_n hx hb d_M_around_1 rfl (lv_at hl 2 rfl) ?_
  refine lv_aload_n hx hb d_M_around_2 rfl (lv_at hl 0 rfl) ?_
  refine va_get (D := D) (ci := 1) (v := .ref qa) (C := R_M) (T := T_M) (N := 7) hx hb hts (ui_M _) hown hK hP 0 rfl rfl 2 (by decide) (hts _ (gwc gw_511)) (fun _ h9 => h9) rfl d_M_around_3 ?_
  refine lv_iload hx hb d_M_around_6 (lv_at hl 4 rfl) ?_
  refine ld_l hx hb hK hP 1 2 rfl rfl 0 (by omega) (by omega) d_M_around_8 ?_
  refine tp_l (ax0) (rfl) ?_
  refine lv_lmul hx hb d_M_around_9 ?_
  refine lv_lload hx hb d_M_around_10 (lv_at hl 3 rfl) ?_
  refine lv_aload_n hx hb d_M_around_12 rfl (lv_at hl 0 rfl) ?_
  refine va_get (D := D) (ci := 1) (v := .ref qa) (C := R_M) (T := T_M) (N := 7) hx hb hts (ui_M _) hown hK hP 0 rfl rfl 2 (by decide) (hts _ (gwc gw_511)) (fun _ h9 => h9) rfl d_M_around_13 ?_
  refine lv_iconst (v := 2) hx hb d_M_around_16 (by decide) ?_
  refine lv_iload hx hb d_M_around_17 (lv_at hl 4 rfl) ?_
  refine lv_iadd hx hb d_M_around_19 ?_
  refine tp_i (2) (by decide) ?_
  refine ld_l hx hb hK hP 1 2 rfl rfl 2 (by omega) (by omega) d_M_around_20 ?_
  refine tp_l (ax2) (rfl) ?_
  refine lv_lmul hx hb d_M_around_21 ?_
  refine lv_ladd hx hb d_M_around_22 ?_
  refine lv_ldc2 (v := 32768) hx hb hown (hts _ (gwc gw_653)) d_M_around_23 ?_
  refine lv_ladd hx hb d_M_around_26 ?_
  refine lv_ldc2 (v := 65536) hx hb hown (hts _ (gwc gw_635)) d_M_around_27 ?_
  refine ct_callS (av := [.long (((a_ * ax0) + (b_ * ax2)) + 32768), .long 65536]) (rest := [.long mid]) (wr := [(hm, .inr (1, [.ref a, .ref b, .ref qa, .ref qu, .ref qb, .ref qh, .ref qm])), (qa, .inl (cJ, 4, .inr (.inl (f4 ax0 ax1 ax2 ax3))))]) (n := 2) (c_floorDiv l D cI cB cJ qQ  (((a_ * ax0) + (b_ * ax2)) + 32768) 65536 (by decide)) hx hb hml hown hts (amb_ok qQ) hK hP hD hS hA hM (gi_S gw_616 gw_265 gw_35 gw_266) rfl (by decide +kernel) ⟨by omega, by omega⟩ [] [0, 1] rfl rfl rfl rfl (by decide) rfl hl.1 rfl (Nat.le_of_ble_eq_true rfl) d_M_around_30 ⟨by omega, by omega⟩ (fun u_1 H locs hok hP hD hS => ?_)
  have hP : va_P D cl [(hm, .inr (1, [.ref a, .ref b, .ref qa, .ref qu, .ref qb, .ref qh, .ref qm])), (qa, .inl (cJ, 4, .inr (.inl (f4 ax0 ax1 ax2 ax3))))] H := hP
  have hD : va_D A [(hm, .inr (1, [.ref a, .ref b, .ref qa, .ref qu, .ref qb, .ref qh, .ref qm])), (qa, .inl (cJ, 4, .inr (.inl (f4 ax0 ax1 ax2 ax3))))] := hD
  refine W.eq (g2 := F0 m 33 ls [.long (fdv (((a_ * ax0) + (b_ * ax2)) + 32768) 65536), .long mid]) rfl ?_
  refine lv_ladd hx hb d_M_around_33 ?_
  exact ct_retl hQ hx hb hr hlocks hP hD hS () [(hm, .inr (1, [.ref a, .ref b, .ref qa, .ref qu, .ref qb, .ref qh, .ref qm])), (qa, .inl (cJ, 4, .inr (.inl (f4 ax0 ax1 ax2 ax3))))] [0, 1] (rfl) (trivial) (rfl) rfl rfl (by omega) (by omega) d_M_around_34
set_option maxHeartbeats 4000000 in
set_option maxRecDepth 100000 in
/-- around -/
theorem c_M_around1 (l : Launch) (D : va_G) (cI cB cJ : ClassId) (qQ : Nat) (hm : Nat) (a : Nat) (b : Nat) (qa : Nat) (qu : Nat) (qb : Nat) (qh : Nat) (qm : Nat) (ax0 : Int64) (ax1 : Int64) (ax2 : Int64) (ax3 : Int64) (mid : Int64) (a_ : Int64) (b_ : Int64)  : ct l D cl [(cI, .int), (cB, .byte), (cJ, .long)] (amb qQ) y_M_around w_M_around 1 25 (0) (0) [.ref hm, .long mid, .long a_, .long b_, .int 1] [(hm, .inr (1, [.ref a, .ref b, .ref qa, .ref qu, .ref qb, .ref qh, .ref qm])), (qa, .inl (cJ, 4, .inr (.inl (f4 ax0 ax1 ax2 ax3))))] (fun _ : Unit => True) (fun _ : Unit => some (.long (aro mid a_ b_ ax1 ax3))) (fun _ : Unit => [(hm, .inr (1, [.ref a, .ref b, .ref qa, .ref qu, .ref qb, .ref qh, .ref qm])), (qa, .inl (cJ, 4, .inr (.inl (f4 ax0 ax1 ax2 ax3))))]) := by
  refine ct_ofW (cc := b_M_around) (maxL := 8) (ret := (some .long)) (by decide) rfl (Nat.le_of_ble_eq_true rfl) ?_
  intro p e R s m args below meth c A Q ls hx hb hr hml hts hown hlocks hname hRf hRc hRs hRl hQ hK hP hD hS hA hM hl
  have hl : lv_has ls 8 [(0, .ref hm), (1, .long mid), (3, .long a_), (5, .long b_), (7, .int 1)] := hl
  refine lv_lload_n hx hb d_M_around_0 rfl (lv_at hl 1 rfl) ?_
  refine lv_lload_n hx hb d_M_around_1 rfl (lv_at hl 2 rfl) ?_
  refine lv_aload_n hx hb d_M_around_2 rfl (lv_at hl 0 rfl) ?_
  refine va_get (D := D) (ci := 1) (v := .ref qa) (C := R_M) (T := T_M) (N := 7) hx hb hts (ui_M _) hown hK hP 0 rfl rfl 2 (by decide) (hts _ (gwc gw_511)) (fun _ h9 => h9) rfl d_M_around_3 ?_
  refine lv_iload hx hb d_M_around_6 (lv_at hl 4 rfl) ?_
  refine ld_l hx hb hK hP 1 2 rfl rfl 1 (by omega) (by omega) d_M_around_8 ?_
  refine tp_l (ax1) (rfl) ?_
  refine lv_lmul hx hb d_M_around_9 ?_
  refine lv_lload hx hb d_M_around_10 (lv_at hl 3 rfl) ?_
  refine lv_aload_n hx hb d_M_around_12 rfl (lv_at hl 0 rfl) ?_
  refine va_get (D := D) (ci := 1) (v := .ref qa) (C := R_M) (T := T_M) (N := 7) hx hb hts (ui_M _) hown hK hP 0 rfl rfl 2 (by decide) (hts _ (gwc gw_511)) (fun _ h9 => h9) rfl d_M_around_13 ?_
  refine lv_iconst (v := 2) hx hb d_M_around_16 (by decide) ?_
  refine lv_iload hx hb d_M_around_17 (lv_at hl 4 rfl) ?_
  refine lv_iadd hx hb d_M_around_19 ?_
  refine tp_i (3) (by decide) ?_
  refine ld_l hx hb hK hP 1 2 rfl rfl 3 (by omega) (by omega) d_M_around_20 ?_
  refine tp_l (ax3) (rfl) ?_
  refine lv_lmul hx hb d_M_around_21 ?_
  refine lv_ladd hx hb d_M_around_22 ?_
  refine lv_ldc2 (v := 32768) hx hb hown (hts _ (gwc gw_653)) d_M_around_23 ?_
  refine lv_ladd hx hb d_M_around_26 ?_
  refine lv_ldc2 (v := 65536) hx hb hown (hts _ (gwc gw_635)) d_M_around_27 ?_
  refine ct_callS (av := [.long (((a_ * ax1) + (b_ * ax3)) + 32768), .long 65536]) (rest := [.long mid]) (wr := [(hm, .inr (1, [.ref a, .ref b, .ref qa, .ref qu, .ref qb, .ref qh, .ref qm])), (qa, .inl (cJ, 4, .inr (.inl (f4 ax0 ax1 ax2 ax3))))]) (n := 2) (c_floorDiv l D cI cB cJ qQ  (((a_ * ax1) + (b_ * ax3)) + 32768) 65536 (by decide)) hx hb hml hown hts (amb_ok qQ) hK hP hD hS hA hM (gi_S gw_616 gw_265 gw_35 gw_266) rfl (by decide +kernel) ⟨by omega, by omega⟩ [] [0, 1] rfl rfl rfl rfl (by decide) rfl hl.1 rfl (Nat.le_of_ble_eq_true rfl) d_M_around_30 ⟨by omega, by omega⟩ (fun u_1 H locs hok hP hD hS => ?_)
  have hP : va_P D cl [(hm, .inr (1, [.ref a, .ref b, .ref qa, .ref qu, .ref qb, .ref qh, .ref qm])), (qa, .inl (cJ, 4, .inr (.inl (f4 ax0 ax1 ax2 ax3))))] H := hP
  have hD : va_D A [(hm, .inr (1, [.ref a, .ref b, .ref qa, .ref qu, .ref qb, .ref qh, .ref qm])), (qa, .inl (cJ, 4, .inr (.inl (f4 ax0 ax1 ax2 ax3))))] := hD
  refine W.eq (g2 := F0 m 33 ls [.long (fdv (((a_ * ax1) + (b_ * ax3)) + 32768) 65536), .long mid]) rfl ?_
  refine lv_ladd hx hb d_M_around_33 ?_
  exact ct_retl hQ hx hb hr hlocks hP hD hS () [(hm, .inr (1, [.ref a, .ref b, .ref qa, .ref qu, .ref qb, .ref qh, .ref qm])), (qa, .inl (cJ, 4, .inr (.inl (f4 ax0 ax1 ax2 ax3))))] [0, 1] (rfl) (trivial) (rfl) rfl rfl (by omega) (by omega) d_M_around_34
