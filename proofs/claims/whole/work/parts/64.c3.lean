set_option maxHeartbeats 4000000 in
set_option maxRecDepth 100000 in
/-- isEmpty -/
theorem c_Path_isEmpty (l : Launch) (D : va_G) (cI cB cJ : ClassId) (qQ : Nat) (hp : Nat) (qk : Nat) (qf : Nat) (qx : Nat) (qy : Nat) (pc_ : Nat) (pn : Nat) (pb : Nat) (hpc : pc_ ≤ 3000) : ct l D cl [(cI, .int), (cB, .byte), (cJ, .long)] (amb qQ) y_Path_isEmpty w_Path_isEmpty 0 0 (0) (0) [.ref hp] [(hp, .inr (5, [.ref qk, .ref qf, .ref qx, .ref qy, .int (nI pc_), .int (nI pn), .int (nI pb)]))] (fun _ : Unit => True) (fun _ : Unit => some (.int (bz (decide (pc_ = 0))))) (fun _ : Unit => [(hp, .inr (5, [.ref qk, .ref qf, .ref qx, .ref qy, .int (nI pc_), .int (nI pn), .int (nI pb)]))]) := by
  refine ct_ofW (cc := b_Path_isEmpty) (maxL := 1) (ret := (some .boolean)) (by decide) rfl (Nat.le_of_ble_eq_true rfl) ?_
  intro p e R s m args below meth c A Q ls hx hb hr hml hts hown hlocks hname hRf hRc hRs hRl hQ hK hP hD hS hA hM hl
  have hl : lv_has ls 1 [(0, .ref hp)] := hl
  refine lv_aload_n hx hb d_Path_isEmpty_0 rfl (lv_at hl 0 rfl) ?_
  refine va_get (D := D) (ci := 5) (v := .int (nI pc_)) (C := R_Path) (T := T_Path) (N := 7) hx hb hts (ui_Path _) hown hK hP 0 rfl rfl 4 (by decide) (hts _ (gwc gw_117)) (fun _ h9 => h9) rfl d_Path_isEmpty_1 ?_
  refine bz_ne (a1 := pc_) (tgt := 11) hx hb (by omega) d_Path_isEmpty_4 (by decide) (fun c_1 => ?_) (fun c_1 => ?_)
  · skip
    refine lv_iconst (v := 0) hx hb d_Path_isEmpty_11 (by decide) ?_
    exact ct_retz hQ hx hb hr hlocks hP hD hS () [(hp, .inr (5, [.ref qk, .ref qf, .ref qx, .ref qy, .int (nI pc_), .int (nI pn), .int (nI pb)]))] [0] (by rw [decide_eq_false (by omega)]; rfl) (trivial) (rfl) rfl rfl (by decide) (by omega) (by omega) d_Path_isEmpty_12
  · skip
    refine lv_iconst (v := 1) hx hb d_Path_isEmpty_7 (by decide) ?_
    refine lv_goto (tgt := 12) hx hb d_Path_isEmpty_8 (by decide) ?_
    exact ct_retz hQ hx hb hr hlocks hP hD hS () [(hp, .inr (5, [.ref qk, .ref qf, .ref qx, .ref qy, .int (nI pc_), .int (nI pn), .int (nI pb)]))] [0] (by rw [decide_eq_true c_1]; rfl) (trivial) (rfl) rfl rfl (by decide) (by omega) (by omega) d_Path_isEmpty_12
set_option maxHeartbeats 4000000 in
set_option maxRecDepth 100000 in
/-- hasPart -/
theorem c_Path_hasPart (l : Launch) (D : va_G) (cI cB cJ : ClassId) (qQ : Nat) (hp : Nat) (qk : Nat) (qf : Nat) (qx : Nat) (qy : Nat) (pc_ : Nat) (pn : Nat) (pb : Nat) (i : Int32) (hpc : pc_ ≤ 3000) : ct l D cl [(cI, .int), (cB, .byte), (cJ, .long)] (amb qQ) y_Path_hasPart w_Path_hasPart 0 0 (0) (0) [.ref hp, .int i] [(hp, .inr (5, [.ref qk, .ref qf, .ref qx, .ref qy, .int (nI pc_), .int (nI pn), .int (nI pb)]))] (fun _ : Unit => True) (fun _ : Unit => some (.int (bz (decide (¬ i < 0 ∧ ¬ nI pc_ ≤ i))))) (fun _ : Unit => [(hp, .inr (5, [.ref qk, .ref qf, .ref qx, .ref qy, .int (nI pc_), .int (nI pn), .int (nI pb)]))]) := by
  refine ct_ofW (cc := b_Path_hasPart) (maxL := 2) (ret := (some .boolean)) (by decide) rfl (Nat.le_of_ble_eq_true rfl) ?_
  intro p e R s m args below meth c A Q ls hx hb hr hml hts hown hlocks hname hRf hRc hRs hRl hQ hK hP hD hS hA hM hl
  have hl : lv_has ls 2 [(0, .ref hp), (1, .int i)] := hl
  refine lv_iload_n hx hb d_Path_hasPart_0 rfl (lv_at hl 1 rfl) ?_
  refine lv_if_lt (tgt := 16) hx hb d_Path_hasPart_1 (by decide) (fun c_1 => ?_) (fun c_1 => ?_)
  · skip
    refine lv_iconst (v := 0) hx hb d_Path_hasPart_16 (by decide) ?_
    exact ct_retz hQ hx hb hr hlocks hP hD hS () [(hp, .inr (5, [.ref qk, .ref qf, .ref qx, .ref qy, .int (nI pc_), .int (nI pn), .int (nI pb)]))] [0] (by simp [bz, c_1]) (trivial) (rfl) rfl rfl (by decide) (by omega) (by omega) d_Path_hasPart_17
  · skip
    refine lv_iload_n hx hb d_Path_hasPart_4 rfl (lv_at hl 1 rfl) ?_
    refine lv_aload_n hx hb d_Path_hasPart_5 rfl (lv_at hl 0 rfl) ?_
    refine va_get (D := D) (ci := 5) (v := .int (nI pc_)) (C := R_Path) (T := T_Path) (N := 7) hx hb hts (ui_Path _) hown hK hP 0 rfl rfl 4 (by decide) (hts _ (gwc gw_117)) (fun _ h9 => h9) rfl d_Path_hasPart_6 ?_
    refine lv_icmp_ge (tgt := 16) hx hb d_Path_hasPart_9 (by decide) (fun c_2 => ?_) (fun c_2 => ?_)
    · skip
      refine lv_iconst (v := 0) hx hb d_Path_hasPart_16 (by decide) ?_
      exact ct_retz hQ hx hb hr hlocks hP hD hS () [(hp, .inr (5, [.ref qk, .ref qf, .ref qx, .ref qy, .int (nI pc_), .int (nI pn), .int (nI pb)]))] [0] (by simp [bz, c_1, c_2]) (trivial) (rfl) rfl rfl (by decide) (by omega) (by omega) d_Path_hasPart_17
    · skip
      refine lv_iconst (v := 1) hx hb d_Path_hasPart_12 (by decide) ?_
      refine lv_goto (tgt := 17) hx hb d_Path_hasPart_13 (by decide) ?_
      exact ct_retz hQ hx hb hr hlocks hP hD hS () [(hp, .inr (5, [.ref qk, .ref qf, .ref qx, .ref qy, .int (nI pc_), .int (nI pn), .int (nI pb)]))] [0] (by simp [bz, c_1, c_2]) (trivial) (rfl) rfl rfl (by decide) (by omega) (by omega) d_Path_hasPart_17
set_option maxHeartbeats 4000000 in
set_option maxRecDepth 100000 in
/-- onlyBegan -/
theorem c_Path_onlyBegan (l : Launch) (D : va_G) (cI cB cJ : ClassId) (qQ : Nat) (hp : Nat) (qk : Nat) (qf : Nat) (qx : Nat) (qy : Nat) (pc_ : Nat) (pn : Nat) (pb : Nat) (nk : Nat) (K : Nat → Int32) (hpc : pc_ ≤ 3000) (hpk : pc_ ≤ nk) (hnk : nk ≤ 3000) : ct l D cl [(cI, .int), (cB, .byte), (cJ, .long)] (amb qQ) y_Path_onlyBegan w_Path_onlyBegan 0 0 (0) (0) [.ref hp] [(hp, .inr (5, [.ref qk, .ref qf, .ref qx, .ref qy, .int (nI pc_), .int (nI pn), .int (nI pb)])), (qk, .inl (cI, nk, .inl K))] (fun _ : Unit => True) (fun _ : Unit => some (.int (bz (decide (0 < pc_ ∧ K (pc_ - 1) = 0))))) (fun _ : Unit => [(hp, .inr (5, [.ref qk, .ref qf, .ref qx, .ref qy, .int (nI pc_), .int (nI pn), .int (nI pb)])), (qk, .inl (cI, nk, .inl K))]) := by
  refine ct_ofW (cc := b_Path_onlyBegan) (maxL := 1) (ret := (some .boolean)) (by decide) rfl (Nat.le_of_ble_eq_true rfl) ?_
  intro p e R s m args below meth c A Q ls hx hb hr hml hts hown hlocks hname hRf hRc hRs hRl hQ hK hP hD hS hA hM hl
  have hl : lv_has ls 1 [(0, .ref hp)] := hl
  refine lv_aload_n hx hb d_Path_onlyBegan_0 rfl (lv_at hl 0 rfl) ?_
  refine va_get (D := D) (ci := 5) (v := .int (nI pc_)) (C := R_Path) (T := T_Path) (N := 7) hx hb hts (ui_Path _) hown hK hP 0 rfl rfl 4 (by decide) (hts _ (gwc gw_117)) (fun _ h9 => h9) rfl d_Path_onlyBegan_1 ?_
  refine bz_le (a1 := pc_) (tgt := 25) hx hb (by omega) d_Path_onlyBegan_4 (by decide) (fun c_1 => ?_) (fun c_1 => ?_)
  · skip
    refine lv_iconst (v := 0) hx hb d_Path_onlyBegan_25 (by decide) ?_
    exact ct_retz hQ hx hb hr hlocks hP hD hS () [(hp, .inr (5, [.ref qk, .ref qf, .ref qx, .ref qy, .int (nI pc_), .int (nI pn), .int (nI pb)])), (qk, .inl (cI, nk, .inl K))] [0, 1] (by rw [decide_eq_false (by omega)]; rfl) (trivial) (rfl) rfl rfl (by decide) (by omega) (by omega) d_Path_onlyBegan_26
  · skip
    refine lv_aload_n hx hb d_Path_onlyBegan_7 rfl (lv_at hl 0 rfl) ?_
    refine va_get (D := D) (ci := 5) (v := .ref qk) (C := R_Path) (T := T_Path) (N := 7) hx hb hts (ui_Path _) hown hK hP 0 rfl rfl 0 (by decide) (hts _ (gwc gw_107)) (fun _ h9 => h9) rfl d_Path_onlyBegan_8 ?_
    refine lv_aload_n hx hb d_Path_onlyBegan_11 rfl (lv_at hl 0 rfl) ?_
    refine va_get (D := D) (ci := 5) (v := .int (nI pc_)) (C := R_Path) (T := T_Path) (N := 7) hx hb hts (ui_Path _) hown hK hP 0 rfl rfl 4 (by decide) (hts _ (gwc gw_117)) (fun _ h9 => h9) rfl d_Path_onlyBegan_12 ?_
    refine lv_iconst (v := 1) hx hb d_Path_onlyBegan_15 (by decide) ?_
    refine lv_isub hx hb d_Path_onlyBegan_16 ?_
    refine tp_i (nI (pc_ - 1)) (pk_sub (a := pc_) (b := 1) (by omega)) ?_
    refine ld_i hx hb hK hP 1 0 rfl rfl (pc_ - 1) (by omega) (by omega) d_Path_onlyBegan_17 ?_
    refine lv_if_ne (tgt := 25) hx hb d_Path_onlyBegan_18 (by decide) (fun c_2 => ?_) (fun c_2 => ?_)
    · skip
      refine lv_iconst (v := 0) hx hb d_Path_onlyBegan_25 (by decide) ?_
      exact ct_retz hQ hx hb hr hlocks hP hD hS () [(hp, .inr (5, [.ref qk, .ref qf, .ref qx, .ref qy, .int (nI pc_), .int (nI pn), .int (nI pb)])), (qk, .inl (cI, nk, .inl K))] [0, 1] (by rw [decide_eq_false (fun z => c_2 z.2)]; rfl) (trivial) (rfl) rfl rfl (by decide) (by omega) (by omega) d_Path_onlyBegan_26
    · skip
      refine lv_iconst (v := 1) hx hb d_Path_onlyBegan_21 (by decide) ?_
      refine lv_goto (tgt := 26) hx hb d_Path_onlyBegan_22 (by decide) ?_
      exact ct_retz hQ hx hb hr hlocks hP hD hS () [(hp, .inr (5, [.ref qk, .ref qf, .ref qx, .ref qy, .int (nI pc_), .int (nI pn), .int (nI pb)])), (qk, .inl (cI, nk, .inl K))] [0, 1] (by rw [decide_eq_true ⟨c_1, c_2⟩]; rfl) (trivial) (rfl) rfl rfl (by decide) (by omega) (by omega) d_Path_onlyBegan_26
set_option maxHeartbeats 4000000 in
set_option maxRecDepth 100000 in
/-- isClosed -/
theorem c_Path_isClosed (l : Launch) (D : va_G) (cI cB cJ : ClassId) (qQ : Nat) (hp : Nat) (qk : Nat) (qf : Nat) (qx : Nat) (qy : Nat) (pc_ : Nat) (pn : Nat) (pb : Nat) (nk : Nat) (K : Nat → Int32) (hpc : pc_ ≤ 3000) (hpk : pc_ ≤ nk) (hnk : nk ≤ 3000) : ct l D cl [(cI, .int), (cB, .byte), (cJ, .long)] (amb qQ) y_Path_isClosed w_Path_isClosed 0 0 (0) (0) [.ref hp] [(hp, .inr (5, [.ref qk, .ref qf, .ref qx, .ref qy, .int (nI pc_), .int (nI pn), .int (nI pb)])), (qk, .inl (cI, nk, .inl K))] (fun _ : Unit => True) (fun _ : Unit => some (.int (bz (decide (0 < pc_ ∧ K (pc_ - 1) = 3))))) (fun _ : Unit => [(hp, .inr (5, [.ref qk, .ref qf, .ref qx, .ref qy, .int (nI pc_), .int (nI pn), .int (nI pb)])), (qk, .inl (cI, nk, .inl K))]) := by
  refine ct_ofW (cc := b_Path_isClosed) (maxL := 1) (ret := (some .boolean)) (by decide) rfl (Nat.le_of_ble_eq_true rfl) ?_
  intro p e R s m args below meth c A Q ls hx hb hr hml hts hown hlocks hname hRf hRc hRs hRl hQ hK hP hD hS hA hM hl
  have hl : lv_has ls 1 [(0, .ref hp)] := hl
  refine lv_aload_n hx hb d_Path_isClosed_0 rfl (lv_at hl 0 rfl) ?_
  refine va_get (D := D) (ci := 5) (v := .int (nI pc_)) (C := R_Path) (T := T_Path) (N := 7) hx hb hts (ui_Path _) hown hK hP 0 rfl rfl 4 (by decide) (hts _ (gwc gw_117)) (fun _ h9 => h9) rfl d_Path_isClosed_1 ?_
  refine bz_le (a1 := pc_) (tgt := 26) hx hb (by omega) d_Path_isClosed_4 (by decide) (fun c_1 => ?_) (fun c_1 => ?_)
  · skip
    refine lv_iconst (v := 0) hx hb d_Path_isClosed_26 (by decide) ?_
    exact ct_retz hQ hx hb hr hlocks hP hD hS () [(hp, .inr (5, [.ref qk, .ref qf, .ref qx, .ref qy, .int (nI pc_), .int (nI pn), .int (nI pb)])), (qk, .inl (cI, nk, .inl K))] [0, 1] (by rw [decide_eq_false (by omega)]; rfl) (trivial) (rfl) rfl rfl (by decide) (by omega) (by omega) d_Path_isClosed_27
  · skip
    refine lv_aload_n hx hb d_Path_isClosed_7 rfl (lv_at hl 0 rfl) ?_
    refine va_get (D := D) (ci := 5) (v := .ref qk) (C := R_Path) (T := T_Path) (N := 7) hx hb hts (ui_Path _) hown hK hP 0 rfl rfl 0 (by decide) (hts _ (gwc gw_107)) (fun _ h9 => h9) rfl d_Path_isClosed_8 ?_
    refine lv_aload_n hx hb d_Path_isClosed_11 rfl (lv_at hl 0 rfl) ?_
    refine va_get (D := D) (ci := 5) (v := .int (nI pc_)) (C := R_Path) (T := T_Path) (N := 7) hx hb hts (ui_Path _) hown hK hP 0 rfl rfl 4 (by decide) (hts _ (gwc gw_117)) (fun _ h9 => h9) rfl d_Path_isClosed_12 ?_
    refine lv_iconst (v := 1) hx hb d_Path_isClosed_15 (by decide) ?_
    refine lv_isub hx hb d_Path_isClosed_16 ?_
    refine tp_i (nI (pc_ - 1)) (pk_sub (a := pc_) (b := 1) (by omega)) ?_
    refine ld_i hx hb hK hP 1 0 rfl rfl (pc_ - 1) (by omega) (by omega) d_Path_isClosed_17 ?_
    refine lv_iconst (v := 3) hx hb d_Path_isClosed_18 (by decide) ?_
    refine lv_icmp_ne (tgt := 26) hx hb d_Path_isClosed_19 (by decide) (fun c_2 => ?_) (fun c_2 => ?_)
    · skip
      refine lv_iconst (v := 0) hx hb d_Path_isClosed_26 (by decide) ?_
      exact ct_retz hQ hx hb hr hlocks hP hD hS () [(hp, .inr (5, [.ref qk, .ref qf, .ref qx, .ref qy, .int (nI pc_), .int (nI pn), .int (nI pb)])), (qk, .inl (cI, nk, .inl K))] [0, 1] (by rw [decide_eq_false (fun z => c_2 z.2)]; rfl) (trivial) (rfl) rfl rfl (by decide) (by omega) (by omega) d_Path_isClosed_27
    · skip
      refine lv_iconst (v := 1) hx hb d_Path_isClosed_22 (by decide) ?_
      refine lv_goto (tgt := 27) hx hb d_Path_isClosed_23 (by decide) ?_
      exact ct_retz hQ hx hb hr hlocks hP hD hS () [(hp, .inr (5, [.ref qk, .ref qf, .ref qx, .ref qy, .int (nI pc_), .int (nI pn), .int (nI pb)])), (qk, .inl (cI, nk, .inl K))] [0, 1] (by rw [decide_eq_true ⟨c_1, c_2⟩]; rfl) (trivial) (rfl) rfl rfl (by decide) (by omega) (by omega) d_Path_isClosed_27
set_option maxHeartbeats 4000000 in
set_option maxRecDepth 100000 in
/-- takes -/
theorem c_Path_takes (l : Launch) (D : va_G) (cI cB cJ : ClassId) (qQ : Nat) (hp : Nat) (qk : Nat) (qf : Nat) (qx : Nat) (qy : Nat) (pc_ : Nat) (pn : Nat) (pb : Nat) (mo : Nat) (hpc : pc_ ≤ 3000) (hmo : mo ≤ 1000) : ct l D cl [(cI, .int), (cB, .byte), (cJ, .long)] (amb qQ) y_Path_takes w_Path_takes 0 0 (0) (0) [.ref hp, .int (nI mo)] [(hp, .inr (5, [.ref qk, .ref qf, .ref qx, .ref qy, .int (nI pc_), .int (nI pn), .int (nI pb)]))] (fun _ : Unit => True) (fun _ : Unit => some (.int (bz (decide (pc_ + mo ≤ 3000))))) (fun _ : Unit => [(hp, .inr (5, [.ref qk, .ref qf, .ref qx, .ref qy, .int (nI pc_), .int (nI pn), .int (nI pb)]))]) := by
  refine ct_ofW (cc := b_Path_takes) (maxL := 2) (ret := (some .boolean)) (by decide) rfl (Nat.le_of_ble_eq_true rfl) ?_
  intro p e R s m args below meth c A Q ls hx hb hr hml hts hown hlocks hname hRf hRc hRs hRl hQ hK hP hD hS hA hM hl
  have hl : lv_has ls 2 [(0, .ref hp), (1, .int (nI mo))] := hl
  refine lv_aload_n hx hb d_Path_takes_0 rfl (lv_at hl 0 rfl) ?_
  refine va_get (D := D) (ci := 5) (v := .int (nI pc_)) (C := R_Path) (T := T_Path) (N := 7) hx hb hts (ui_Path _) hown hK hP 0 rfl rfl 4 (by decide) (hts _ (gwc gw_117)) (fun _ h9 => h9) rfl d_Path_takes_1 ?_
  refine lv_iload_n hx hb d_Path_takes_4 rfl (lv_at hl 1 rfl) ?_
  refine lv_iadd hx hb d_Path_takes_5 ?_
  refine tp_i (nI (pc_ + mo)) (nI_add _ _) ?_
  refine lv_sipush (v := 3000) hx hb d_Path_takes_6 (by decide) ?_
  refine bn_gt (a1 := pc_ + mo) (b1 := 3000) (tgt := 16) hx hb (by omega) (by omega) d_Path_takes_9 (by decide) (fun c_1 => ?_) (fun c_1 => ?_)
  · skip
    refine lv_iconst (v := 0) hx hb d_Path_takes_16 (by decide) ?_
    exact ct_retz hQ hx hb hr hlocks hP hD hS () [(hp, .inr (5, [.ref qk, .ref qf, .ref qx, .ref qy, .int (nI pc_), .int (nI pn), .int (nI pb)]))] [0] (by rw [decide_eq_false (by omega)]; rfl) (trivial) (rfl) rfl rfl (by decide) (by omega) (by omega) d_Path_takes_17
  · skip
    refine lv_iconst (v := 1) hx hb d_Path_takes_12 (by decide) ?_
    refine lv_goto (tgt := 17) hx hb d_Path_takes_13 (by decide) ?_
    exact ct_retz hQ hx hb hr hlocks hP hD hS () [(hp, .inr (5, [.ref qk, .ref qf, .ref qx, .ref qy, .int (nI pc_), .int (nI pn), .int (nI pb)]))] [0] (by rw [decide_eq_true c_1]; rfl) (trivial) (rfl) rfl rfl (by decide) (by omega) (by omega) d_Path_takes_17
set_option maxHeartbeats 4000000 in
set_option maxRecDepth 100000 in
/-- takesSegments -/
theorem c_Path_takesSegments (l : Launch) (D : va_G) (cI cB cJ : ClassId) (qQ : Nat) (hp : Nat) (qk : Nat) (qf : Nat) (qx : Nat) (qy : Nat) (pc_ : Nat) (pn : Nat) (pb : Nat) (nk : Nat) (K : Nat → Int32) (mo : Nat) (hpc : pc_ ≤ 3000) (hpk : pc_ ≤ nk) (hnk : nk ≤ 3000) (hmo : mo ≤ 999) : ct l D cl [(cI, .int), (cB, .byte), (cJ, .long)] (amb qQ) y_Path_takesSegments w_Path_takesSegments 1 21 (0) (0) [.ref hp, .int (nI mo)] [(hp, .inr (5, [.ref qk, .ref qf, .ref qx, .ref qy, .int (nI pc_), .int (nI pn), .int (nI pb)])), (qk, .inl (cI, nk, .inl K))] (fun _ : Unit => True) (fun _ : Unit => some (.int (bz (decide (pc_ + (if 0 < pc_ ∧ K (pc_ - 1) = 3 then mo + 1 else mo) ≤ 3000))))) (fun _ : Unit => [(hp, .inr (5, [.ref qk, .ref qf, .ref qx, .ref qy, .int (nI pc_), .int (nI pn), .int (nI pb)])), (qk, .inl (cI, nk, .inl K))]) := by
  refine ct_ofW (cc := b_Path_takesSegments) (maxL := 2) (ret := (some .boolean)) (by decide) rfl (Nat.le_of_ble_eq_true rfl) ?_
  intro p e R s m args below meth c A Q ls hx hb hr hml hts hown hlocks hname hRf hRc hRs hRl hQ hK hP hD hS hA hM hl
  have hl : lv_has ls 2 [(0, .ref hp), (1, .int (nI mo))] := hl
  refine lv_aload_n hx hb d_Path_takesSegments_0 rfl (lv_at hl 0 rfl) ?_
  refine lv_aload_n hx hb d_Path_takesSegments_1 rfl (lv_at hl 0 rfl) ?_
  refine ct_callV (ci := 5) (q0 := 0) (As := []) (rest := [.ref hp]) (wr := []) (n := 0) (c_Path_isClosed l D cI cB cJ qQ  hp qk qf qx qy pc_ pn pb nk K (by omega) (by omega) (by omega)) hx hb hml hown hts (amb_ok qQ) hK hP hD hS hA hM (gi_V gw_202 gw_203 gw_204 gw_32 gw_205) rfl (by decide +kernel) ⟨by omega, by omega⟩ [0, 1] [] rfl rfl rfl rfl (by decide) rfl rfl rfl hl.1 rfl (Nat.le_of_ble_eq_true rfl) d_Path_takesSegments_2 ⟨by omega, by omega⟩ (fun u_1 H locs hok hP hD hS => ?_)
  have hP : va_P D cl [(hp, .inr (5, [.ref qk, .ref qf, .ref qx, .ref qy, .int (nI pc_), .int (nI pn), .int (nI pb)])), (qk, .inl (cI, nk, .inl K))] H := hP
  have hD : va_D A [(hp, .inr (5, [.ref qk, .ref qf, .ref qx, .ref qy, .int (nI pc_), .int (nI pn), .int (nI pb)])), (qk, .inl (cI, nk, .inl K))] := hD
  refine W.eq (g2 := F0 m 5 ls [.int (bz (decide (0 < pc_ ∧ K (pc_ - 1) = 3))), .ref hp]) rfl ?_
  refine bb_eq (tgt := 14) hx hb d_Path_takesSegments_5 (by decide) (fun c_2 => ?_) (fun c_2 => ?_)
  · skip
    refine lv_iload_n hx hb d_Path_takesSegments_14 rfl (lv_at hl 1 rfl) ?_
    refine ct_callV (ci := 5) (q0 := 0) (As := [.int (nI mo)]) (rest := []) (wr := [(qk, .inl (cI, nk, .inl K))]) (n := 1) (c_Path_takes l D cI cB cJ qQ  hp qk qf qx qy pc_ pn pb mo (by omega) (by omega)) hx hb hml hown hts (amb_ok qQ) hK hP hD hS hA hM (gi_V gw_206 gw_175 gw_176 gw_32 gw_177) rfl (by decide +kernel) ⟨by omega, by omega⟩ [0] [1] rfl rfl rfl rfl (by decide) rfl rfl rfl hl.1 rfl (Nat.le_of_ble_eq_true rfl) d_Path_takesSegments_15 ⟨by omega, by omega⟩ (fun u_3 H locs hok hP hD hS => ?_)
    have hP : va_P D cl [(qk, .inl (cI, nk, .inl K)), (hp, .inr (5, [.ref qk, .ref qf, .ref qx, .ref qy, .int (nI pc_), .int (nI pn), .int (nI pb)]))] H := hP
    have hD : va_D A [(qk, .inl (cI, nk, .inl K)), (hp, .inr (5, [.ref qk, .ref qf, .ref qx, .ref qy, .int (nI pc_), .int (nI pn), .int (nI pb)]))] := hD
    refine W.eq (g2 := F0 m 18 ls [.int (bz (decide (pc_ + mo ≤ 3000)))]) rfl ?_
    exact ct_retz hQ hx hb hr hlocks hP hD hS () [(hp, .inr (5, [.ref qk, .ref qf, .ref qx, .ref qy, .int (nI pc_), .int (nI pn), .int (nI pb)])), (qk, .inl (cI, nk, .inl K))] [1, 0] (by rw [if_neg (of_decide_eq_false c_2)]) (trivial) (rfl) rfl rfl (bz_nar _) (by omega) (by omega) d_Path_takesSegments_18
  · skip
    refine lv_iload_n hx hb d_Path_takesSegments_8 rfl (lv_at hl 1 rfl) ?_
    refine lv_iconst (v := 1) hx hb d_Path_takesSegments_9 (by decide) ?_
    refine lv_iadd hx hb d_Path_takesSegments_10 ?_
    refine tp_i (nI (mo + 1)) (nI_add _ _) ?_
    refine lv_goto (tgt := 15) hx hb d_Path_takesSegments_11 (by decide) ?_
    refine ct_callV (ci := 5) (q0 := 0) (As := [.int (nI (mo + 1))]) (rest := []) (wr := [(qk, .inl (cI, nk, .inl K))]) (n := 1) (c_Path_takes l D cI cB cJ qQ  hp qk qf qx qy pc_ pn pb (mo + 1) (by omega) (by omega)) hx hb hml hown hts (amb_ok qQ) hK hP hD hS hA hM (gi_V gw_206 gw_175 gw_176 gw_32 gw_177) rfl (by decide +kernel) ⟨by omega, by omega⟩ [0] [1] rfl rfl rfl rfl (by decide) rfl rfl rfl hl.1 rfl (Nat.le_of_ble_eq_true rfl) d_Path_takesSegments_15 ⟨by omega, by omega⟩ (fun u_4 H locs hok hP hD hS => ?_)
    have hP : va_P D cl [(qk, .inl (cI, nk, .inl K)), (hp, .inr (5, [.ref qk, .ref qf, .ref qx, .ref qy, .int (nI pc_), .int (nI pn), .int (nI pb)]))] H := hP
    have hD : va_D A [(qk, .inl (cI, nk, .inl K)), (hp, .inr (5, [.ref qk, .ref qf, .ref qx, .ref qy, .int (nI pc_), .int (nI pn), .int (nI pb)]))] := hD
    refine W.eq (g2 := F0 m 18 ls [.int (bz (decide (pc_ + (mo + 1) ≤ 3000)))]) rfl ?_
    exact ct_retz hQ hx hb hr hlocks hP hD hS () [(hp, .inr (5, [.ref qk, .ref qf, .ref qx, .ref qy, .int (nI pc_), .int (nI pn), .int (nI pb)])), (qk, .inl (cI, nk, .inl K))] [1, 0] (by rw [if_pos (of_decide_eq_true c_2)]) (trivial) (rfl) rfl rfl (bz_nar _) (by omega) (by omega) d_Path_takesSegments_18
set_option maxHeartbeats 4000000 in
set_option maxRecDepth 100000 in
/-- pointOf -/
theorem c_Path_pointOf (l : Launch) (D : va_G) (cI cB cJ : ClassId) (qQ : Nat) (hp : Nat) (qk : Nat) (qf : Nat) (qx : Nat) (qy : Nat) (pc_ : Nat) (pn : Nat) (pb : Nat) (nk : Nat) (K : Nat → Int32) (Fi : Nat → Int32) (fo : Nat → Nat) (i : Nat) (hi : i < nk) (hnk : nk ≤ 3000) (hF : Fi i = nI (fo i)) : ct l D cl [(cI, .int), (cB, .byte), (cJ, .long)] (amb qQ) y_Path_pointOf w_Path_pointOf 0 0 (0) (0) [.ref hp, .int (nI i)] [(hp, .inr (5, [.ref qk, .ref qf, .ref qx, .ref qy, .int (nI pc_), .int (nI pn), .int (nI pb)])), (qk, .inl (cI, nk, .inl K)), (qf, .inl (cI, nk, .inl Fi))] (fun _ : Unit => True) (fun _ : Unit => some (.int (nI (if K i = 2 then fo i + 2 else fo i)))) (fun _ : Unit => [(hp, .inr (5, [.ref qk, .ref qf, .ref qx, .ref qy, .int (nI pc_), .int (nI pn), .int (nI pb)])), (qk, .inl (cI, nk, .inl K)), (qf, .inl (cI, nk, .inl Fi))]) := by
  refine ct_ofW (cc := b_Path_pointOf) (maxL := 2) (ret := (some .int)) (by decide) rfl (Nat.le_of_ble_eq_true rfl) ?_
  intro p e R s m args below meth c A Q ls hx hb hr hml hts hown hlocks hname hRf hRc hRs hRl hQ hK hP hD hS hA hM hl
  have hl : lv_has ls 2 [(0, .ref hp), (1, .int (nI i))] := hl
  refine lv_aload_n hx hb d_Path_pointOf_0 rfl (lv_at hl 0 rfl) ?_
  refine va_get (D := D) (ci := 5) (v := .ref qk) (C := R_Path) (T := T_Path) (N := 7) hx hb hts (ui_Path _) hown hK hP 0 rfl rfl 0 (by decide) (hts _ (gwc gw_107)) (fun _ h9 => h9) rfl d_Path_pointOf_1 ?_
  refine lv_iload_n hx hb d_Path_pointOf_4 rfl (lv_at hl 1 rfl) ?_
  refine ld_i hx hb hK hP 1 0 rfl rfl i (by omega) (by omega) d_Path_pointOf_5 ?_
  refine lv_iconst (v := 2) hx hb d_Path_pointOf_6 (by decide) ?_
  refine lv_icmp_ne (tgt := 21) hx hb d_Path_pointOf_7 (by decide) (fun c_1 => ?_) (fun c_1 => ?_)
  · skip
    refine lv_aload_n hx hb d_Path_pointOf_21 rfl (lv_at hl 0 rfl) ?_
    refine va_get (D := D) (ci := 5) (v := .ref qf) (C := R_Path) (T := T_Path) (N := 7) hx hb hts (ui_Path _) hown hK hP 0 rfl rfl 1 (by decide) (hts _ (gwc gw_109)) (fun _ h9 => h9) rfl d_Path_pointOf_22 ?_
    refine lv_iload_n hx hb d_Path_pointOf_25 rfl (lv_at hl 1 rfl) ?_
    refine ld_i hx hb hK hP 2 0 rfl rfl i (by omega) (by omega) d_Path_pointOf_26 ?_
    refine tp_i (nI (fo i)) (hF) ?_
    exact ct_reti hQ hx hb hr hlocks hP hD hS () [(hp, .inr (5, [.ref qk, .ref qf, .ref qx, .ref qy, .int (nI pc_), .int (nI pn), .int (nI pb)])), (qk, .inl (cI, nk, .inl K)), (qf, .inl (cI, nk, .inl Fi))] [0, 1, 2] (by rw [if_neg c_1]) (trivial) (rfl) rfl rfl (by omega) (by omega) d_Path_pointOf_27
  · skip
    refine lv_aload_n hx hb d_Path_pointOf_10 rfl (lv_at hl 0 rfl) ?_
    refine va_get (D := D) (ci := 5) (v := .ref qf) (C := R_Path) (T := T_Path) (N := 7) hx hb hts (ui_Path _) hown hK hP 0 rfl rfl 1 (by decide) (hts _ (gwc gw_109)) (fun _ h9 => h9) rfl d_Path_pointOf_11 ?_
    refine lv_iload_n hx hb d_Path_pointOf_14 rfl (lv_at hl 1 rfl) ?_
    refine ld_i hx hb hK hP 2 0 rfl rfl i (by omega) (by omega) d_Path_pointOf_15 ?_
    refine tp_i (nI (fo i)) (hF) ?_
    refine lv_iconst (v := 2) hx hb d_Path_pointOf_16 (by decide) ?_
    refine lv_iadd hx hb d_Path_pointOf_17 ?_
    refine tp_i (nI (fo i + 2)) (nI_add _ _) ?_
    refine lv_goto (tgt := 27) hx hb d_Path_pointOf_18 (by decide) ?_
    exact ct_reti hQ hx hb hr hlocks hP hD hS () [(hp, .inr (5, [.ref qk, .ref qf, .ref qx, .ref qy, .int (nI pc_), .int (nI pn), .int (nI pb)])), (qk, .inl (cI, nk, .inl K)), (qf, .inl (cI, nk, .inl Fi))] [0, 1, 2] (by rw [if_pos c_1]) (trivial) (rfl) rfl rfl (by omega) (by omega) d_Path_pointOf_27
set_option maxHeartbeats 4000000 in
set_option maxRecDepth 100000 in
/-- latestPoint -/
theorem c_Path_latestPoint (l : Launch) (D : va_G) (cI cB cJ : ClassId) (qQ : Nat) (hp : Nat) (qk : Nat) (qf : Nat) (qx : Nat) (qy : Nat) (pc_ : Nat) (pn : Nat) (pb : Nat) (nk : Nat) (K : Nat → Int32) (Fi : Nat → Int32) (fo : Nat → Nat) (hpc : 1 ≤ pc_) (hpk : pc_ ≤ nk) (hnk : nk ≤ 3000) (hF : Fi (pc_ - 1) = nI (fo (pc_ - 1))) : ct l D cl [(cI, .int), (cB, .byte), (cJ, .long)] (amb qQ) y_Path_latestPoint w_Path_latestPoint 1 21 (0) (0) [.ref hp] [(hp, .inr (5, [.ref qk, .ref qf, .ref qx, .ref qy, .int (nI pc_), .int (nI pn), .int (nI pb)])), (qk, .inl (cI, nk, .inl K)), (qf, .inl (cI, nk, .inl Fi))] (fun _ : Unit => True) (fun _ : Unit => some (.int (nI (if K (pc_ - 1) = 2 then fo (pc_ - 1) + 2 else fo (pc_ - 1))))) (fun _ : Unit => [(hp, .inr (5, [.ref qk, .ref qf, .ref qx, .ref qy, .int (nI pc_), .int (nI pn), .int (nI pb)])), (qk, .inl (cI, nk, .inl K)), (qf, .inl (cI, nk, .inl Fi))]) := by
  refine ct_ofW (cc := b_Path_latestPoint) (maxL := 1) (ret := (some .int)) (by decide) rfl (Nat.le_of_ble_eq_true rfl) ?_
  intro p e R s m args below meth c A Q ls hx hb hr hml hts hown hlocks hname hRf hRc hRs hRl hQ hK hP hD hS hA hM hl
  have hl : lv_has ls 1 [(0, .ref hp)] := hl
  refine lv_aload_n hx hb d_Path_latestPoint_0 rfl (lv_at hl 0 rfl) ?_
  refine lv_aload_n hx hb d_Path_latestPoint_1 rfl (lv_at hl 0 rfl) ?_
  refine va_get (D := D) (ci := 5) (v := .int (nI pc_)) (C := R_Path) (T := T_Path) (N := 7) hx hb hts (ui_Path _) hown hK hP 0 rfl rfl 4 (by decide) (hts _ (gwc gw_117)) (fun _ h9 => h9) rfl d_Path_latestPoint_2 ?_
  refine lv_iconst (v := 1) hx hb d_Path_latestPoint_5 (by decide) ?_
  refine lv_isub hx hb d_Path_latestPoint_6 ?_
  refine tp_i (nI (pc_ - 1)) (pk_sub (a := pc_) (b := 1) (by omega)) ?_
  refine ct_callV (ci := 5) (q0 := 0) (As := [.int (nI (pc_ - 1))]) (rest := []) (wr := []) (n := 1) (c_Path_pointOf l D cI cB cJ qQ  hp qk qf qx qy pc_ pn pb nk K Fi fo (pc_ - 1) (by omega) (hnk) (hF)) hx hb hml hown hts (amb_ok qQ) hK hP hD hS hA hM (gi_V gw_367 gw_368 gw_369 gw_32 gw_370) rfl (by decide +kernel) ⟨by omega, by omega⟩ [0, 1, 2] [] rfl rfl rfl rfl (by decide) rfl rfl rfl hl.1 rfl (Nat.le_of_ble_eq_true rfl) d_Path_latestPoint_7 ⟨by omega, by omega⟩ (fun u_1 H locs hok hP hD hS => ?_)
  have hP : va_P D cl [(hp, .inr (5, [.ref qk, .ref qf, .ref qx, .ref qy, .int (nI pc_), .int (nI pn), .int (nI pb)])), (qk, .inl (cI, nk, .inl K)), (qf, .inl (cI, nk, .inl Fi))] H := hP
  have hD : va_D A [(hp, .inr (5, [.ref qk, .ref qf, .ref qx, .ref qy, .int (nI pc_), .int (nI pn), .int (nI pb)])), (qk, .inl (cI, nk, .inl K)), (qf, .inl (cI, nk, .inl Fi))] := hD
  refine W.eq (g2 := F0 m 10 ls [.int (nI (if K (pc_ - 1) = 2 then fo (pc_ - 1) + 2 else fo (pc_ - 1)))]) rfl ?_
  exact ct_reti hQ hx hb hr hlocks hP hD hS () [(hp, .inr (5, [.ref qk, .ref qf, .ref qx, .ref qy, .int (nI pc_), .int (nI pn), .int (nI pb)])), (qk, .inl (cI, nk, .inl K)), (qf, .inl (cI, nk, .inl Fi))] [0, 1, 2] (rfl) (trivial) (rfl) rfl rfl (by omega) (by omega) d_Path_latestPoint_10
set_option maxHeartbeats 4000000 in
set_option maxRecDepth 100000 in
/-- coordinate -/
theorem c_Path_coordinate (l : Launch) (D : va_G) (cI cB cJ : ClassId) (qQ : Nat) (hp : Nat) (qk : Nat) (qf : Nat) (qx : Nat) (qy : Nat) (pc_ : Nat) (pn : Nat) (pb : Nat) (nx : Nat) (X : Nat → Int32) (Y : Nat → Int32) (at_ : Nat) (ax_ : Int32) (ha : at_ < nx) (hnx : nx ≤ 9000) : ct l D cl [(cI, .int), (cB, .byte), (cJ, .long)] (amb qQ) y_Path_coordinate w_Path_coordinate 0 0 (0) (0) [.ref hp, .int (nI at_), .int ax_] [(hp, .inr (5, [.ref qk, .ref qf, .ref qx, .ref qy, .int (nI pc_), .int (nI pn), .int (nI pb)])), (qx, .inl (cI, nx, .inl X)), (qy, .inl (cI, nx, .inl Y))] (fun _ : Unit => True) (fun _ : Unit => some (.int (if ax_ = 0 then X at_ else Y at_))) (fun _ : Unit => [(hp, .inr (5, [.ref qk, .ref qf, .ref qx, .ref qy, .int (nI pc_), .int (nI pn), .int (nI pb)])), (qx, .inl (cI, nx, .inl X)), (qy, .inl (cI, nx, .inl Y))]) := by
  refine ct_ofW (cc := b_Path_coordinate) (maxL := 3) (ret := (some .int)) (by decide) rfl (Nat.le_of_ble_eq_true rfl) ?_
  intro p e R s m args below meth c A Q ls hx hb hr hml hts hown hlocks hname hRf hRc hRs hRl hQ hK hP hD hS hA hM hl
  have hl : lv_has ls 3 [(0, .ref hp), (1, .int (nI at_)), (2, .int ax_)] := hl
  refine lv_iload_n hx hb d_Path_coordinate_0 rfl (lv_at hl 2 rfl) ?_
  refine lv_if_ne (tgt := 13) hx hb d_Path_coordinate_1 (by decide) (fun c_1 => ?_) (fun c_1 => ?_)
  · skip
    refine lv_aload_n hx hb d_Path_coordinate_13 rfl (lv_at hl 0 rfl) ?_
    refine va_get (D := D) (ci := 5) (v := .ref qy) (C := R_Path) (T := T_Path) (N := 7) hx hb hts (ui_Path _) hown hK hP 0 rfl rfl 3 (by decide) (hts _ (gwc gw_114)) (fun _ h9 => h9) rfl d_Path_coordinate_14 ?_
    refine lv_iload_n hx hb d_Path_coordinate_17 rfl (lv_at hl 1 rfl) ?_
    refine ld_i hx hb hK hP 2 0 rfl rfl at_ (by omega) (by omega) d_Path_coordinate_18 ?_
    exact ct_reti hQ hx hb hr hlocks hP hD hS () [(hp, .inr (5, [.ref qk, .ref qf, .ref qx, .ref qy, .int (nI pc_), .int (nI pn), .int (nI pb)])), (qx, .inl (cI, nx, .inl X)), (qy, .inl (cI, nx, .inl Y))] [0, 1, 2] (by rw [if_neg c_1]) (trivial) (rfl) rfl rfl (by omega) (by omega) d_Path_coordinate_19
  · skip
    refine lv_aload_n hx hb d_Path_coordinate_4 rfl (lv_at hl 0 rfl) ?_
    refine va_get (D := D) (ci := 5) (v := .ref qx) (C := R_Path) (T := T_Path) (N := 7) hx hb hts (ui_Path _) hown hK hP 0 rfl rfl 2 (by decide) (hts _ (gwc gw_111)) (fun _ h9 => h9) rfl d_Path_coordinate_5 ?_
    refine lv_iload_n hx hb d_Path_coordinate_8 rfl (lv_at hl 1 rfl) ?_
    refine ld_i hx hb hK hP 1 0 rfl rfl at_ (by omega) (by omega) d_Path_coordinate_9 ?_
    refine lv_goto (tgt := 19) hx hb d_Path_coordinate_10 (by decide) ?_
    exact ct_reti hQ hx hb hr hlocks hP hD hS () [(hp, .inr (5, [.ref qk, .ref qf, .ref qx, .ref qy, .int (nI pc_), .int (nI pn), .int (nI pb)])), (qx, .inl (cI, nx, .inl X)), (qy, .inl (cI, nx, .inl Y))] [0, 1, 2] (by rw [if_pos c_1]) (trivial) (rfl) rfl rfl (by omega) (by omega) d_Path_coordinate_19
set_option maxHeartbeats 4000000 in
set_option maxRecDepth 100000 in
/-- makeEmpty -/
theorem c_Path_makeEmpty (l : Launch) (D : va_G) (cI cB cJ : ClassId) (qQ : Nat) (hp : Nat) (qk : Nat) (qf : Nat) (qx : Nat) (qy : Nat) (pc_ : Nat) (pn : Nat) (pb : Nat)  : ct l D cl [(cI, .int), (cB, .byte), (cJ, .long)] (amb qQ) y_Path_makeEmpty w_Path_makeEmpty 0 0 (0) (0) [.ref hp] [(hp, .inr (5, [.ref qk, .ref qf, .ref qx, .ref qy, .int (nI pc_), .int (nI pn), .int (nI pb)]))] (fun _ : Unit => True) (fun _ : Unit => none) (fun _ : Unit => [(hp, .inr (5, [.ref qk, .ref qf, .ref qx, .ref qy, .int (nI 0), .int (nI 0), .int (nI 0)]))]) := by
  refine ct_ofW (cc := b_Path_makeEmpty) (maxL := 1) (ret := none) (by decide) rfl (Nat.le_of_ble_eq_true rfl) ?_
  intro p e R s m args below meth c A Q ls hx hb hr hml hts hown hlocks hname hRf hRc hRs hRl hQ hK hP hD hS hA hM hl
  have hl : lv_has ls 1 [(0, .ref hp)] := hl
  refine lv_aload_n hx hb d_Path_makeEmpty_0 rfl (lv_at hl 0 rfl) ?_
  refine lv_iconst (v := 0) hx hb d_Path_makeEmpty_1 (by decide) ?_
  refine va_put (D := D) (ci := 5) (v := .int 0) (ty := .int) (C := R_Path) (T := T_Path) (N := 7) hx hb hts (ui_Path _) t_Path tk_Path nk_Path hown hK hP hD hS 0 rfl rfl 4 (by decide) (hts _ (gwc gw_117)) (fun _ h9 => h9) rfl (by decide +kernel) rfl rfl (Nat.le_of_ble_eq_true rfl) d_Path_makeEmpty_2 (fun H locs hP hD hS => ?_)
  have hP : va_P D cl [(hp, .inr (5, [.ref qk, .ref qf, .ref qx, .ref qy, .int 0, .int (nI pn), .int (nI pb)]))] H := hP
  have hD : va_D A [(hp, .inr (5, [.ref qk, .ref qf, .ref qx, .ref qy, .int 0, .int (nI pn), .int (nI pb)]))] := hD
  refine lv_aload_n hx hb d_Path_makeEmpty_5 rfl (lv_at hl 0 rfl) ?_
  refine lv_iconst (v := 0) hx hb d_Path_makeEmpty_6 (by decide) ?_
  refine va_put (D := D) (ci := 5) (v := .int 0) (ty := .int) (C := R_Path) (T := T_Path) (N := 7) hx hb hts (ui_Path _) t_Path tk_Path nk_Path hown hK hP hD hS 0 rfl rfl 5 (by decide) (hts _ (gwc gw_121)) (fun _ h9 => h9) rfl (by decide +kernel) rfl rfl (Nat.le_of_ble_eq_true rfl) d_Path_makeEmpty_7 (fun H locs hP hD hS => ?_)
  have hP : va_P D cl [(hp, .inr (5, [.ref qk, .ref qf, .ref qx, .ref qy, .int 0, .int 0, .int (nI pb)]))] H := hP
  have hD : va_D A [(hp, .inr (5, [.ref qk, .ref qf, .ref qx, .ref qy, .int 0, .int 0, .int (nI pb)]))] := hD
  refine lv_aload_n hx hb d_Path_makeEmpty_10 rfl (lv_at hl 0 rfl) ?_
  refine lv_iconst (v := 0) hx hb d_Path_makeEmpty_11 (by decide) ?_
  refine va_put (D := D) (ci := 5) (v := .int 0) (ty := .int) (C := R_Path) (T := T_Path) (N := 7) hx hb hts (ui_Path _) t_Path tk_Path nk_Path hown hK hP hD hS 0 rfl rfl 6 (by decide) (hts _ (gwc gw_122)) (fun _ h9 => h9) rfl (by decide +kernel) rfl rfl (Nat.le_of_ble_eq_true rfl) d_Path_makeEmpty_12 (fun H locs hP hD hS => ?_)
  have hP : va_P D cl [(hp, .inr (5, [.ref qk, .ref qf, .ref qx, .ref qy, .int 0, .int 0, .int 0]))] H := hP
  have hD : va_D A [(hp, .inr (5, [.ref qk, .ref qf, .ref qx, .ref qy, .int 0, .int 0, .int 0]))] := hD
  exact ct_retv hQ hx hb hr hlocks hP hD hS () [(hp, .inr (5, [.ref qk, .ref qf, .ref qx, .ref qy, .int 0, .int 0, .int 0]))] [0] (rfl) (trivial) (rfl) rfl rfl (by omega) (by omega) d_Path_makeEmpty_15
set_option maxHeartbeats 4000000 in
set_option maxRecDepth 100000 in
/-- replaceBeginning -/
theorem c_Path_replaceBeginning (l : Launch) (D : va_G) (cI cB cJ : ClassId) (qQ : Nat) (hp : Nat) (qk : Nat) (qf : Nat) (qx : Nat) (qy : Nat) (pc_ : Nat) (pn : Nat) (pb : Nat) (nx : Nat) (X : Nat → Int32) (Y : Nat → Int32) (x : Int32) (y : Int32) (hb_ : pb < nx) (hnx : nx ≤ 9000) : ct l D cl [(cI, .int), (cB, .byte), (cJ, .long)] (amb qQ) y_Path_replaceBeginning w_Path_replaceBeginning 0 0 (0) (0) [.ref hp, .int x, .int y] [(hp, .inr (5, [.ref qk, .ref qf, .ref qx, .ref qy, .int (nI pc_), .int (nI pn), .int (nI pb)])), (qx, .inl (cI, nx, .inl X)), (qy, .inl (cI, nx, .inl Y))] (fun _ : Unit => True) (fun _ : Unit => none) (fun _ : Unit => [(hp, .inr (5, [.ref qk, .ref qf, .ref qx, .ref qy, .int (nI pc_), .int (nI pn), .int (nI pb)])), (qx, .inl (cI, nx, .inl (upd X pb x))), (qy, .inl (cI, nx, .inl (upd Y pb y)))]) := by
  refine ct_ofW (cc := b_Path_replaceBeginning) (maxL := 3) (ret := none) (by decide) rfl (Nat.le_of_ble_eq_true rfl) ?_
  intro p e R s m args below meth c A Q ls hx hb hr hml hts hown hlocks hname hRf hRc hRs hRl hQ hK hP hD hS hA hM hl
  have hl : lv_has ls 3 [(0, .ref hp), (1, .int x), (2, .int y)] := hl
  refine lv_aload_n hx hb d_Path_replaceBeginning_0 rfl (lv_at hl 0 rfl) ?_
  refine va_get (D := D) (ci := 5) (v := .ref qx) (C := R_Path) (T := T_Path) (N := 7) hx hb hts (ui_Path _) hown hK hP 0 rfl rfl 2 (by decide) (hts _ (gwc gw_111)) (fun _ h9 => h9) rfl d_Path_replaceBeginning_1 ?_
  refine lv_aload_n hx hb d_Path_replaceBeginning_4 rfl (lv_at hl 0 rfl) ?_
  refine va_get (D := D) (ci := 5) (v := .int (nI pb)) (C := R_Path) (T := T_Path) (N := 7) hx hb hts (ui_Path _) hown hK hP 0 rfl rfl 6 (by decide) (hts _ (gwc gw_122)) (fun _ h9 => h9) rfl d_Path_replaceBeginning_5 ?_
  refine lv_iload_n hx hb d_Path_replaceBeginning_8 rfl (lv_at hl 1 rfl) ?_
  refine st_i hx hb hK hP hD hS 1 0 rfl rfl pb (by omega) (by omega) d_Path_replaceBeginning_9 (fun H locs hP hD hS => ?_)
  have hP : va_P D cl [(hp, .inr (5, [.ref qk, .ref qf, .ref qx, .ref qy, .int (nI pc_), .int (nI pn), .int (nI pb)])), (qx, .inl (cI, nx, .inl (upd X pb x))), (qy, .inl (cI, nx, .inl Y))] H := hP
  have hD : va_D A [(hp, .inr (5, [.ref qk, .ref qf, .ref qx, .ref qy, .int (nI pc_), .int (nI pn), .int (nI pb)])), (qx, .inl (cI, nx, .inl (upd X pb x))), (qy, .inl (cI, nx, .inl Y))] := hD
  refine lv_aload_n hx hb d_Path_replaceBeginning_10 rfl (lv_at hl 0 rfl) ?_
  refine va_get (D := D) (ci := 5) (v := .ref qy) (C := R_Path) (T := T_Path) (N := 7) hx hb hts (ui_Path _) hown hK hP 0 rfl rfl 3 (by decide) (hts _ (gwc gw_114)) (fun _ h9 => h9) rfl d_Path_replaceBeginning_11 ?_
  refine lv_aload_n hx hb d_Path_replaceBeginning_14 rfl (lv_at hl 0 rfl) ?_
  refine va_get (D := D) (ci := 5) (v := .int (nI pb)) (C := R_Path) (T := T_Path) (N := 7) hx hb hts (ui_Path _) hown hK hP 0 rfl rfl 6 (by decide) (hts _ (gwc gw_122)) (fun _ h9 => h9) rfl d_Path_replaceBeginning_15 ?_
  refine lv_iload_n hx hb d_Path_replaceBeginning_18 rfl (lv_at hl 2 rfl) ?_
  refine st_i hx hb hK hP hD hS 2 0 rfl rfl pb (by omega) (by omega) d_Path_replaceBeginning_19 (fun H locs hP hD hS => ?_)
  have hP : va_P D cl [(hp, .inr (5, [.ref qk, .ref qf, .ref qx, .ref qy, .int (nI pc_), .int (nI pn), .int (nI pb)])), (qx, .inl (cI, nx, .inl (upd X pb x))), (qy, .inl (cI, nx, .inl (upd Y pb y)))] H := hP
  have hD : va_D A [(hp, .inr (5, [.ref qk, .ref qf, .ref qx, .ref qy, .int (nI pc_), .int (nI pn), .int (nI pb)])), (qx, .inl (cI, nx, .inl (upd X pb x))), (qy, .inl (cI, nx, .inl (upd Y pb y)))] := hD
  exact ct_retv hQ hx hb hr hlocks hP hD hS () [(hp, .inr (5, [.ref qk, .ref qf, .ref qx, .ref qy, .int (nI pc_), .int (nI pn), .int (nI pb)])), (qx, .inl (cI, nx, .inl (upd X pb x))), (qy, .inl (cI, nx, .inl (upd Y pb y)))] [0, 1, 2] (rfl) (trivial) (rfl) rfl rfl (by omega) (by omega) d_Path_replaceBeginning_20
