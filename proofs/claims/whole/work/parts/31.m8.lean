set_option maxHeartbeats 40000000 in
set_option maxRecDepth 100000 in
/-- shift -/
theorem c_M_shift (l : Launch) (D : va_G) (cI cB cJ : ClassId) (qQ : Nat) (hm : Nat) (a : Nat) (b : Nat) (qa : Nat) (qu : Nat) (qb : Nat) (qh : Nat) (qm : Nat) (qk : Nat) (qp : Nat) (n : Nat) (K : Nat → Int32) (P : Nat → Int32) (fu : Bool) (fa : Bool) (qk2 : Nat) (qp2 : Nat) (n2 : Nat) (K2 : Nat → Int32) (P2 : Nat → Int32) (fu2 : Bool) (fa2 : Bool) (dx : Int32) (dy : Int32) (hn : n ≤ 3000) (hk : ∀ i, i < n → kok (K i)) (h0 : 0 < n → K 0 = 0) : ct l D cl [(cI, .int), (cB, .byte), (cJ, .long)] (amb qQ) y_M_shift w_M_shift 2 54 (0) (0) [.ref hm, .int dx, .int dy] [(hm, .inr (1, [.ref a, .ref b, .ref qa, .ref qu, .ref qb, .ref qh, .ref qm])), (a, .inr (6, [.ref qk, .ref qp, .int (nI n), .int (bz fu), .int (bz fa)])), (qk, .inl (cB, 3000, .inl K)), (qp, .inl (cI, 18000, .inl P)), (b, .inr (6, [.ref qk2, .ref qp2, .int (nI n2), .int (bz fu2), .int (bz fa2)])), (qk2, .inl (cB, 3000, .inl K2)), (qp2, .inl (cI, 18000, .inl P2))] (fun u_ : Int32 × Nat × Nat × Nat × Nat × Nat × (Nat → Int32) × (Nat → Int32) × Bool × Bool × Nat × Nat × Nat × (Nat → Int32) × (Nat → Int32) × Bool × Bool => match u_ with | (r, a', b', qk', qp', n', K', P', fu', fa', qk2', qp2', n2', K2', P2', fu2', fa2') => n' ≤ 3000 ∧ (r, lst n' K' P') = rShift (lst n K P) dx dy) (fun u_ : Int32 × Nat × Nat × Nat × Nat × Nat × (Nat → Int32) × (Nat → Int32) × Bool × Bool × Nat × Nat × Nat × (Nat → Int32) × (Nat → Int32) × Bool × Bool => match u_ with | (r, a', b', qk', qp', n', K', P', fu', fa', qk2', qp2', n2', K2', P2', fu2', fa2') => some (.int r)) (fun u_ : Int32 × Nat × Nat × Nat × Nat × Nat × (Nat → Int32) × (Nat → Int32) × Bool × Bool × Nat × Nat × Nat × (Nat → Int32) × (Nat → Int32) × Bool × Bool => match u_ with | (r, a', b', qk', qp', n', K', P', fu', fa', qk2', qp2', n2', K2', P2', fu2', fa2') => [(hm, .inr (1, [.ref a', .ref b', .ref qa, .ref qu, .ref qb, .ref qh, .ref qm])), (a', .inr (6, [.ref qk', .ref qp', .int (nI n'), .int (bz fu'), .int (bz fa')])), (qk', .inl (cB, 3000, .inl K')), (qp', .inl (cI, 18000, .inl P')), (b', .inr (6, [.ref qk2', .ref qp2', .int (nI n2'), .int (bz fu2'), .int (bz fa2')])), (qk2', .inl (cB, 3000, .inl K2')), (qp2', .inl (cI, 18000, .inl P2'))]) := by
  refine ct_ofW (cc := b_M_shift) (maxL := 5) (ret := (some .int)) (by decide) rfl (Nat.le_of_ble_eq_true rfl) ?_
  intro p e R s m args below meth c A Q ls hx hb hr hml hts hown hlocks hname hRf hRc hRs hRl hQ hK hP hD hS hA hM hl
  have hl : lv_has ls 5 [(0, .ref hm), (1, .int dx), (2, .int dy)] := hl
  refine lv_aload_n hx hb d_M_shift_0 rfl (lv_at hl 0 rfl) ?_
  refine va_get (D := D) (ci := 1) (v := .ref b) (C := R_M) (T := T_M) (N := 7) hx hb hts (ui_M _) hown hK hP 0 rfl rfl 1 (by decide) (hts _ (gwc gw_510)) (fun _ h9 => h9) rfl d_M_shift_1 ?_
  refine ct_callV (ci := 6) (q0 := 4) (As := []) (rest := []) (wr := [(hm, .inr (1, [.ref a, .ref b, .ref qa, .ref qu, .ref qb, .ref qh, .ref qm])), (a, .inr (6, [.ref qk, .ref qp, .int (nI n), .int (bz fu), .int (bz fa)])), (qk, .inl (cB, 3000, .inl K)), (qp, .inl (cI, 18000, .inl P))]) (n := 0) (c_MPath_empty l D cI cB cJ qQ  b qk2 qp2 n2 K2 P2 fu2 fa2 ) hx hb hml hown hts (amb_ok qQ) hK hP hD hS hA hM (gi_V gw_605 gw_553 gw_554 gw_34 gw_555) rfl (by decide +kernel) ⟨by omega, by omega⟩ [4, 5, 6] [0, 1, 2, 3] rfl rfl rfl rfl (by decide) rfl rfl rfl hl.1 rfl (Nat.le_of_ble_eq_true rfl) d_M_shift_4 ⟨by omega, by omega⟩ (fun u_1 H locs hok hP hD hS => ?_)
  have hP : va_P D cl [(hm, .inr (1, [.ref a, .ref b, .ref qa, .ref qu, .ref qb, .ref qh, .ref qm])), (a, .inr (6, [.ref qk, .ref qp, .int (nI n), .int (bz fu), .int (bz fa)])), (qk, .inl (cB, 3000, .inl K)), (qp, .inl (cI, 18000, .inl P)), (b, .inr (6, [.ref qk2, .ref qp2, .int (nI 0), .int (bz false), .int (bz false)])), (qk2, .inl (cB, 3000, .inl K2)), (qp2, .inl (cI, 18000, .inl P2))] H := hP
  have hD : va_D A [(hm, .inr (1, [.ref a, .ref b, .ref qa, .ref qu, .ref qb, .ref qh, .ref qm])), (a, .inr (6, [.ref qk, .ref qp, .int (nI n), .int (bz fu), .int (bz fa)])), (qk, .inl (cB, 3000, .inl K)), (qp, .inl (cI, 18000, .inl P)), (b, .inr (6, [.ref qk2, .ref qp2, .int (nI 0), .int (bz false), .int (bz false)])), (qk2, .inl (cB, 3000, .inl K2)), (qp2, .inl (cI, 18000, .inl P2))] := hD
  refine W.eq (g2 := F0 m 7 ls []) rfl ?_
  refine lv_iconst (v := 0) hx hb d_M_shift_7 (by decide) ?_
  refine lv_istore_n (lv' := [(3, .int 0), (0, .ref hm), (1, .int dx), (2, .int dy)]) hx hb d_M_shift_8 rfl hl (by decide) rfl (fun ls hl => ?_)
  have L_9 : ∀ (n_ : Nat) (i : Nat) (n2 : Nat) (K2 : Nat → Int32) (P2 : Nat → Int32) (fu2 : Bool) (fa2 : Bool), n - i < n_ → (i ≤ n) → (n2 ≤ 3000) → ((lst n2 K2 P2, fu2, fa2) = (lst i K P).foldl (shD dx dy) ([], false, false)) → ∀ (H : Heap) (locs : List Loc) (ls : Array Slot), va_P D cl [(hm, .inr (1, [.ref a, .ref b, .ref qa, .ref qu, .ref qb, .ref qh, .ref qm])), (a, .inr (6, [.ref qk, .ref qp, .int (nI n), .int (bz fu), .int (bz fa)])), (qk, .inl (cB, 3000, .inl K)), (qp, .inl (cI, 18000, .inl P)), (b, .inr (6, [.ref qk2, .ref qp2, .int (nI n2), .int (bz fu2), .int (bz fa2)])), (qk2, .inl (cB, 3000, .inl K2)), (qp2, .inl (cI, 18000, .inl P2))] H → va_D A [(hm, .inr (1, [.ref a, .ref b, .ref qa, .ref qu, .ref qb, .ref qh, .ref qm])), (a, .inr (6, [.ref qk, .ref qp, .int (nI n), .int (bz fu), .int (bz fa)])), (qk, .inl (cB, 3000, .inl K)), (qp, .inl (cI, 18000, .inl P)), (b, .inr (6, [.ref qk2, .ref qp2, .int (nI n2), .int (bz fu2), .int (bz fa2)])), (qk2, .inl (cB, 3000, .inl K2)), (qp2, .inl (cI, 18000, .inl P2))] → va_S A s.heap H locs → lv_has ls 5 [(0, .ref hm), (1, .int dx), (2, .int dy), (3, .int (nI i))] → W p l e R s m args below meth c H locs (0) (0) Q (F0 m 9 ls []) := by
    intro n_
    induction n_ with
    | zero => intro i n2 K2 P2 fu2 fa2 hm_; exact absurd hm_ (Nat.not_lt_zero _)
    | succ n_ ih_9 =>
      intro i n2 K2 P2 fu2 fa2 hm_ hi hn2 hF H locs ls hP hD hS hl
      refine lv_iload_n hx hb d_M_shift_9 rfl (lv_at hl 3 rfl) ?_
      refine lv_aload_n hx hb d_M_shift_10 rfl (lv_at hl 0 rfl) ?_
      refine va_get (D := D) (ci := 1) (v := .ref a) (C := R_M) (T := T_M) (N := 7) hx hb hts (ui_M _) hown hK hP 0 rfl rfl 0 (by decide) (hts _ (gwc gw_509)) (fun _ h9 => h9) rfl d_M_shift_11 ?_
      refine va_getN (D := D) (ci := 6) (v := .int (nI n)) (C := R_MPath) (T := T_MPath) (N := 5) hx hb hts (ui_MPath _) hown hK hP 1 rfl rfl 2 (by decide) ((amb_nw_10 hM).use rfl) (fun _ h9 => h9) rfl d_M_shift_14 ?_
      refine bn_ge (a1 := i) (b1 := n) (tgt := 176) hx hb (by omega) (by omega) d_M_shift_17 (by decide) (fun c_2 => ?_) (fun c_2 => ?_)
      · skip
        have hfin : (lst n2 K2 P2, fu2, fa2) = (lst n K P).foldl (shD dx dy) ([], false, false) := by rw [hF, show i = n by omega]
        refine lv_aload_n hx hb d_M_shift_176 rfl (lv_at hl 0 rfl) ?_
        refine ct_callV (ci := 1) (q0 := 0) (As := []) (rest := []) (wr := []) (n := 0) (c_M_settle l D cI cB cJ qQ  hm a b qa qu qb qh qm qk qp n K P fu fa qk2 qp2 n2 K2 P2 fu2 fa2 ) hx hb hml hown hts (amb_ok qQ) hK hP hD hS hA hM (gi_V gw_573 gw_575 gw_18 gw_33 gw_576) rfl (by decide +kernel) ⟨by omega, by omega⟩ [0, 1, 2, 3, 4, 5, 6] [] rfl rfl rfl rfl (by decide) rfl rfl rfl hl.1 rfl (Nat.le_of_ble_eq_true rfl) d_M_shift_177 ⟨by omega, by omega⟩ (fun u_3 H locs hok hP hD hS => ?_)
        obtain ⟨r_4, a'_5, b'_6⟩ := u_3
        have hok_7 : ((fa2 = true) ∧ (-4) = r_4 ∧ a = a'_5 ∧ b = b'_6) ∨ ((fa2 = false) ∧ (fu2 = true) ∧ (-3) = r_4 ∧ a = a'_5 ∧ b = b'_6) ∨ ((fa2 = false) ∧ (fu2 = false) ∧ nI n2 = r_4 ∧ b = a'_5 ∧ a = b'_6) := hok
        rcases hok_7 with ⟨h_8, rfl, rfl, rfl⟩ | ⟨h_9, h_10, rfl, rfl, rfl⟩ | ⟨h_11, h_12, rfl, rfl, rfl⟩
        · skip
          have hP : va_P D cl [(hm, .inr (1, [.ref a, .ref b, .ref qa, .ref qu, .ref qb, .ref qh, .ref qm])), (a, .inr (6, [.ref qk, .ref qp, .int (nI n), .int (bz fu), .int (bz fa)])), (qk, .inl (cB, 3000, .inl K)), (qp, .inl (cI, 18000, .inl P)), (b, .inr (6, [.ref qk2, .ref qp2, .int (nI n2), .int (bz fu2), .int (bz fa2)])), (qk2, .inl (cB, 3000, .inl K2)), (qp2, .inl (cI, 18000, .inl P2))] H := hP
          have hD : va_D A [(hm, .inr (1, [.ref a, .ref b, .ref qa, .ref qu, .ref qb, .ref qh, .ref qm])), (a, .inr (6, [.ref qk, .ref qp, .int (nI n), .int (bz fu), .int (bz fa)])), (qk, .inl (cB, 3000, .inl K)), (qp, .inl (cI, 18000, .inl P)), (b, .inr (6, [.ref qk2, .ref qp2, .int (nI n2), .int (bz fu2), .int (bz fa2)])), (qk2, .inl (cB, 3000, .inl K2)), (qp2, .inl (cI, 18000, .inl P2))] := hD
          refine W.eq (g2 := F0 m 180 ls [.int (-4)]) rfl ?_
          exact ct_reti hQ hx hb hr hlocks hP hD hS ((-4), a, b, qk, qp, n, K, P, fu, fa, qk2, qp2, n2, K2, P2, fu2, fa2) [(hm, .inr (1, [.ref a, .ref b, .ref qa, .ref qu, .ref qb, .ref qh, .ref qm])), (a, .inr (6, [.ref qk, .ref qp, .int (nI n), .int (bz fu), .int (bz fa)])), (qk, .inl (cB, 3000, .inl K)), (qp, .inl (cI, 18000, .inl P)), (b, .inr (6, [.ref qk2, .ref qp2, .int (nI n2), .int (bz fu2), .int (bz fa2)])), (qk2, .inl (cB, 3000, .inl K2)), (qp2, .inl (cI, 18000, .inl P2))] [0, 1, 2, 3, 4, 5, 6] (rfl) (⟨hn, by unfold rShift; rw [setl_far hfin h_8]⟩) (rfl) rfl rfl (by omega) (by omega) d_M_shift_180
        · skip
          have hP : va_P D cl [(hm, .inr (1, [.ref a, .ref b, .ref qa, .ref qu, .ref qb, .ref qh, .ref qm])), (a, .inr (6, [.ref qk, .ref qp, .int (nI n), .int (bz fu), .int (bz fa)])), (qk, .inl (cB, 3000, .inl K)), (qp, .inl (cI, 18000, .inl P)), (b, .inr (6, [.ref qk2, .ref qp2, .int (nI n2), .int (bz fu2), .int (bz fa2)])), (qk2, .inl (cB, 3000, .inl K2)), (qp2, .inl (cI, 18000, .inl P2))] H := hP
          have hD : va_D A [(hm, .inr (1, [.ref a, .ref b, .ref qa, .ref qu, .ref qb, .ref qh, .ref qm])), (a, .inr (6, [.ref qk, .ref qp, .int (nI n), .int (bz fu), .int (bz fa)])), (qk, .inl (cB, 3000, .inl K)), (qp, .inl (cI, 18000, .inl P)), (b, .inr (6, [.ref qk2, .ref qp2, .int (nI n2), .int (bz fu2), .int (bz fa2)])), (qk2, .inl (cB, 3000, .inl K2)), (qp2, .inl (cI, 18000, .inl P2))] := hD
          refine W.eq (g2 := F0 m 180 ls [.int (-3)]) rfl ?_
          exact ct_reti hQ hx hb hr hlocks hP hD hS ((-3), a, b, qk, qp, n, K, P, fu, fa, qk2, qp2, n2, K2, P2, fu2, fa2) [(hm, .inr (1, [.ref a, .ref b, .ref qa, .ref qu, .ref qb, .ref qh, .ref qm])), (a, .inr (6, [.ref qk, .ref qp, .int (nI n), .int (bz fu), .int (bz fa)])), (qk, .inl (cB, 3000, .inl K)), (qp, .inl (cI, 18000, .inl P)), (b, .inr (6, [.ref qk2, .ref qp2, .int (nI n2), .int (bz fu2), .int (bz fa2)])), (qk2, .inl (cB, 3000, .inl K2)), (qp2, .inl (cI, 18000, .inl P2))] [0, 1, 2, 3, 4, 5, 6] (rfl) (⟨hn, by unfold rShift; rw [setl_full hfin h_9 h_10]⟩) (rfl) rfl rfl (by omega) (by omega) d_M_shift_180
        · skip
          have hP : va_P D cl [(hm, .inr (1, [.ref b, .ref a, .ref qa, .ref qu, .ref qb, .ref qh, .ref qm])), (a, .inr (6, [.ref qk, .ref qp, .int (nI n), .int (bz fu), .int (bz fa)])), (qk, .inl (cB, 3000, .inl K)), (qp, .inl (cI, 18000, .inl P)), (b, .inr (6, [.ref qk2, .ref qp2, .int (nI n2), .int (bz fu2), .int (bz fa2)])), (qk2, .inl (cB, 3000, .inl K2)), (qp2, .inl (cI, 18000, .inl P2))] H := hP
          have hD : va_D A [(hm, .inr (1, [.ref b, .ref a, .ref qa, .ref qu, .ref qb, .ref qh, .ref qm])), (a, .inr (6, [.ref qk, .ref qp, .int (nI n), .int (bz fu), .int (bz fa)])), (qk, .inl (cB, 3000, .inl K)), (qp, .inl (cI, 18000, .inl P)), (b, .inr (6, [.ref qk2, .ref qp2, .int (nI n2), .int (bz fu2), .int (bz fa2)])), (qk2, .inl (cB, 3000, .inl K2)), (qp2, .inl (cI, 18000, .inl P2))] := hD
          refine W.eq (g2 := F0 m 180 ls [.int (nI n2)]) rfl ?_
          exact ct_reti hQ hx hb hr hlocks hP hD hS ((nI n2), b, a, qk2, qp2, n2, K2, P2, fu2, fa2, qk, qp, n, K, P, fu, fa) [(hm, .inr (1, [.ref b, .ref a, .ref qa, .ref qu, .ref qb, .ref qh, .ref qm])), (b, .inr (6, [.ref qk2, .ref qp2, .int (nI n2), .int (bz fu2), .int (bz fa2)])), (qk2, .inl (cB, 3000, .inl K2)), (qp2, .inl (cI, 18000, .inl P2)), (a, .inr (6, [.ref qk, .ref qp, .int (nI n), .int (bz fu), .int (bz fa)])), (qk, .inl (cB, 3000, .inl K)), (qp, .inl (cI, 18000, .inl P))] [0, 4, 5, 6, 1, 2, 3] (rfl) (⟨hn2, by unfold rShift; rw [setl_ok hfin h_11 h_12, lst_len]⟩) (rfl) rfl rfl (by omega) (by omega) d_M_shift_180
      · skip
        refine lv_aload_n hx hb d_M_shift_20 rfl (lv_at hl 0 rfl) ?_
        refine va_get (D := D) (ci := 1) (v := .ref a) (C := R_M) (T := T_M) (N := 7) hx hb hts (ui_M _) hown hK hP 0 rfl rfl 0 (by decide) (hts _ (gwc gw_509)) (fun _ h9 => h9) rfl d_M_shift_21 ?_
        refine va_getN (D := D) (ci := 6) (v := .ref qk) (C := R_MPath) (T := T_MPath) (N := 5) hx hb hts (ui_MPath _) hown hK hP 1 rfl rfl 0 (by decide) ((amb_nw_9 hM).use rfl) (fun _ h9 => h9) rfl d_M_shift_24 ?_
        refine lv_iload_n hx hb d_M_shift_27 rfl (lv_at hl 3 rfl) ?_
        refine ld_b hx hb hK hP 2 1 rfl rfl i (by omega) (by omega) d_M_shift_28 ?_
        refine lv_iconst (v := 2) hx hb d_M_shift_29 (by decide) ?_
        refine lv_icmp_ne (tgt := 37) hx hb d_M_shift_30 (by decide) (fun c_13 => ?_) (fun c_13 => ?_)
        · skip
          refine lv_iconst (v := 0) hx hb d_M_shift_37 (by decide) ?_
          refine lv_istore (lv' := [(4, .int 0), (0, .ref hm), (1, .int dx), (2, .int dy), (3, .int (nI i))]) hx hb d_M_shift_38 hl (by decide) rfl (fun ls hl => ?_)
          refine lv_aload_n hx hb d_M_shift_40 rfl (lv_at hl 1 rfl) ?_
          refine va_get (D := D) (ci := 1) (v := .ref b) (C := R_M) (T := T_M) (N := 7) hx hb hts (ui_M _) hown hK hP 0 rfl rfl 1 (by decide) (hts _ (gwc gw_510)) (fun _ h9 => h9) rfl d_M_shift_41 ?_
          refine lv_aload_n hx hb d_M_shift_44 rfl (lv_at hl 1 rfl) ?_
          refine va_get (D := D) (ci := 1) (v := .ref a) (C := R_M) (T := T_M) (N := 7) hx hb hts (ui_M _) hown hK hP 0 rfl rfl 0 (by decide) (hts _ (gwc gw_509)) (fun _ h9 => h9) rfl d_M_shift_45 ?_
          refine va_getN (D := D) (ci := 6) (v := .ref qk) (C := R_MPath) (T := T_MPath) (N := 5) hx hb hts (ui_MPath _) hown hK hP 1 rfl rfl 0 (by decide) ((amb_nw_9 hM).use rfl) (fun _ h9 => h9) rfl d_M_shift_48 ?_
          refine lv_iload_n hx hb d_M_shift_51 rfl (lv_at hl 4 rfl) ?_
          refine ld_b hx hb hK hP 2 1 rfl rfl i (by omega) (by omega) d_M_shift_52 ?_
          refine lv_aload_n hx hb d_M_shift_53 rfl (lv_at hl 1 rfl) ?_
          refine va_get (D := D) (ci := 1) (v := .ref a) (C := R_M) (T := T_M) (N := 7) hx hb hts (ui_M _) hown hK hP 0 rfl rfl 0 (by decide) (hts _ (gwc gw_509)) (fun _ h9 => h9) rfl d_M_shift_54 ?_
          refine lv_iload_n hx hb d_M_shift_57 rfl (lv_at hl 4 rfl) ?_
          refine lv_iconst (v := 0) hx hb d_M_shift_58 (by decide) ?_
          refine ct_callV (ci := 6) (q0 := 1) (As := [.int (nI i), .int 0]) (rest := [.int (K i), .ref b]) (wr := [(hm, .inr (1, [.ref a, .ref b, .ref qa, .ref qu, .ref qb, .ref qh, .ref qm])), (b, .inr (6, [.ref qk2, .ref qp2, .int (nI n2), .int (bz fu2), .int (bz fa2)])), (qk2, .inl (cB, 3000, .inl K2)), (qp2, .inl (cI, 18000, .inl P2))]) (n := 2) (c_MPath_get l D cI cB cJ qQ  a qk qp n K P fu fa i 0 (by omega) (by omega)) hx hb hml hown hts (amb_ok qQ) hK hP hD hS hA hM (gi_V gw_540 gw_541 gw_542 gw_34 gw_543) rfl (by decide +kernel) ⟨by omega, by omega⟩ [1, 2, 3] [0, 4, 5, 6] rfl rfl rfl rfl (by decide) rfl rfl rfl hl.1 rfl (Nat.le_of_ble_eq_true rfl) d_M_shift_59 ⟨by omega, by omega⟩ (fun u_14 H locs hok hP hD hS => ?_)
          have hP : va_P D cl [(hm, .inr (1, [.ref a, .ref b, .ref qa, .ref qu, .ref qb, .ref qh, .ref qm])), (b, .inr (6, [.ref qk2, .ref qp2, .int (nI n2), .int (bz fu2), .int (bz fa2)])), (qk2, .inl (cB, 3000, .inl K2)), (qp2, .inl (cI, 18000, .inl P2)), (a, .inr (6, [.ref qk, .ref qp, .int (nI n), .int (bz fu), .int (bz fa)])), (qk, .inl (cB, 3000, .inl K)), (qp, .inl (cI, 18000, .inl P))] H := hP
          have hD : va_D A [(hm, .inr (1, [.ref a, .ref b, .ref qa, .ref qu, .ref qb, .ref qh, .ref qm])), (b, .inr (6, [.ref qk2, .ref qp2, .int (nI n2), .int (bz fu2), .int (bz fa2)])), (qk2, .inl (cB, 3000, .inl K2)), (qp2, .inl (cI, 18000, .inl P2)), (a, .inr (6, [.ref qk, .ref qp, .int (nI n), .int (bz fu), .int (bz fa)])), (qk, .inl (cB, 3000, .inl K)), (qp, .inl (cI, 18000, .inl P))] := hD
          refine W.eq (g2 := F0 m 62 ls [.int (P (6 * i + 0)), .int (K i), .ref b]) rfl ?_
          refine lv_i2l (v := (P (6 * i + 0)).toInt64) hx hb d_M_shift_62 rfl ?_
          refine lv_iload_n hx hb d_M_shift_63 rfl (lv_at hl 2 rfl) ?_
          refine lv_i2l (v := dx.toInt64) hx hb d_M_shift_64 rfl ?_
          refine lv_ladd hx hb d_M_shift_65 ?_
          refine lv_aload_n hx hb d_M_shift_66 rfl (lv_at hl 1 rfl) ?_
          refine va_get (D := D) (ci := 1) (v := .ref a) (C := R_M) (T := T_M) (N := 7) hx hb hts (ui_M _) hown hK hP 0 rfl rfl 0 (by decide) (hts _ (gwc gw_509)) (fun _ h9 => h9) rfl d_M_shift_67 ?_
          refine lv_iload_n hx hb d_M_shift_70 rfl (lv_at hl 4 rfl) ?_
          refine lv_iconst (v := 1) hx hb d_M_shift_71 (by decide) ?_
          refine ct_callV (ci := 6) (q0 := 4) (As := [.int (nI i), .int 1]) (rest := [.long (((P (6 * i + 0)).toInt64) + dx.toInt64), .int (K i), .ref b]) (wr := [(hm, .inr (1, [.ref a, .ref b, .ref qa, .ref qu, .ref qb, .ref qh, .ref qm])), (b, .inr (6, [.ref qk2, .ref qp2, .int (nI n2), .int (bz fu2), .int (bz fa2)])), (qk2, .inl (cB, 3000, .inl K2)), (qp2, .inl (cI, 18000, .inl P2))]) (n := 2) (c_MPath_get l D cI cB cJ qQ  a qk qp n K P fu fa i 1 (by omega) (by omega)) hx hb hml hown hts (amb_ok qQ) hK hP hD hS hA hM (gi_V gw_540 gw_541 gw_542 gw_34 gw_543) rfl (by decide +kernel) ⟨by omega, by omega⟩ [4, 5, 6] [0, 1, 2, 3] rfl rfl rfl rfl (by decide) rfl rfl rfl hl.1 rfl (Nat.le_of_ble_eq_true rfl) d_M_shift_72 ⟨by omega, by omega⟩ (fun u_15 H locs hok hP hD hS => ?_)
          have hP : va_P D cl [(hm, .inr (1, [.ref a, .ref b, .ref qa, .ref qu, .ref qb, .ref qh, .ref qm])), (b, .inr (6, [.ref qk2, .ref qp2, .int (nI n2), .int (bz fu2), .int (bz fa2)])), (qk2, .inl (cB, 3000, .inl K2)), (qp2, .inl (cI, 18000, .inl P2)), (a, .inr (6, [.ref qk, .ref qp, .int (nI n), .int (bz fu), .int (bz fa)])), (qk, .inl (cB, 3000, .inl K)), (qp, .inl (cI, 18000, .inl P))] H := hP
          have hD : va_D A [(hm, .inr (1, [.ref a, .ref b, .ref qa, .ref qu, .ref qb, .ref qh, .ref qm])), (b, .inr (6, [.ref qk2, .ref qp2, .int (nI n2), .int (bz fu2), .int (bz fa2)])), (qk2, .inl (cB, 3000, .inl K2)), (qp2, .inl (cI, 18000, .inl P2)), (a, .inr (6, [.ref qk, .ref qp, .int (nI n), .int (bz fu), .int (bz fa)])), (qk, .inl (cB, 3000, .inl K)), (qp, .inl (cI, 18000, .inl P))] := hD
          refine W.eq (g2 := F0 m 75 ls [.int (P (6 * i + 1)), .long (((P (6 * i + 0)).toInt64) + dx.toInt64), .int (K i), .ref b]) rfl ?_
          refine lv_i2l (v := (P (6 * i + 1)).toInt64) hx hb d_M_shift_75 rfl ?_
          refine lv_iload_n hx hb d_M_shift_76 rfl (lv_at hl 3 rfl) ?_
          refine lv_i2l (v := dy.toInt64) hx hb d_M_shift_77 rfl ?_
          refine lv_ladd hx hb d_M_shift_78 ?_
          refine lv_iload hx hb d_M_shift_79 (lv_at hl 0 rfl) ?_
          refine bz_eq (a1 := 0) (tgt := 100) hx hb (by omega) d_M_shift_81 (by decide) (fun c_16 => ?_) (fun c_16 => ?_)
          rotate_left
          · exact absurd c_16 (by decide)
          refine lv_lconst (v := 0) hx hb d_M_shift_100 (by decide) ?_
          refine lv_iload hx hb d_M_shift_101 (lv_at hl 0 rfl) ?_
          refine bz_eq (a1 := 0) (tgt := 122) hx hb (by omega) d_M_shift_103 (by decide) (fun c_17 => ?_) (fun c_17 => ?_)
          rotate_left
          · exact absurd c_17 (by decide)
          refine lv_lconst (v := 0) hx hb d_M_shift_122 (by decide) ?_
          refine lv_iload hx hb d_M_shift_123 (lv_at hl 0 rfl) ?_
          refine bz_eq (a1 := 0) (tgt := 144) hx hb (by omega) d_M_shift_125 (by decide) (fun c_18 => ?_) (fun c_18 => ?_)
          rotate_left
          · exact absurd c_18 (by decide)
          refine lv_lconst (v := 0) hx hb d_M_shift_144 (by decide) ?_
          refine lv_iload hx hb d_M_shift_145 (lv_at hl 0 rfl) ?_
          refine bz_eq (a1 := 0) (tgt := 166) hx hb (by omega) d_M_shift_147 (by decide) (fun c_19 => ?_) (fun c_19 => ?_)
          rotate_left
          · exact absurd c_19 (by decide)
          refine lv_lconst (v := 0) hx hb d_M_shift_166 (by decide) ?_
          refine ct_callV (ci := 6) (q0 := 1) (As := [.int (K i), .long (((P (6 * i + 0)).toInt64) + dx.toInt64), .long (((P (6 * i + 1)).toInt64) + dy.toInt64), .long 0, .long 0, .long 0, .long 0]) (rest := []) (wr := [(hm, .inr (1, [.ref a, .ref b, .ref qa, .ref qu, .ref qb, .ref qh, .ref qm])), (a, .inr (6, [.ref qk, .ref qp, .int (nI n), .int (bz fu), .int (bz fa)])), (qk, .inl (cB, 3000, .inl K)), (qp, .inl (cI, 18000, .inl P))]) (n := 7) (c_MPath_add l D cI cB cJ qQ  b qk2 qp2 n2 K2 P2 fu2 fa2 (K i) (((P (6 * i + 0)).toInt64) + dx.toInt64) (((P (6 * i + 1)).toInt64) + dy.toInt64) 0 0 0 0 (hn2) (hk i (by omega))) hx hb hml hown hts (amb_ok qQ) hK hP hD hS hA hM (gi_V gw_592 gw_565 gw_566 gw_34 gw_567) rfl (by decide +kernel) ⟨by omega, by omega⟩ [1, 2, 3] [0, 4, 5, 6] rfl rfl rfl rfl (by decide) rfl rfl rfl hl.1 rfl (Nat.le_of_ble_eq_true rfl) d_M_shift_167 ⟨by omega, by omega⟩ (fun u_20 H locs hok hP hD hS => ?_)
          obtain ⟨n'_21, K'_22, P'_23, fu'_24, fa'_25⟩ := u_20
          have hbg : n'_21 ≤ 3000 ∧ (lst n'_21 K'_22 P'_23, fu'_24, fa'_25) = addD (lst n2 K2 P2, fu2, fa2) (K i) (((P (6 * i + 0)).toInt64) + dx.toInt64) (((P (6 * i + 1)).toInt64) + dy.toInt64) 0 0 0 0 := hok
          have hP : va_P D cl [(hm, .inr (1, [.ref a, .ref b, .ref qa, .ref qu, .ref qb, .ref qh, .ref qm])), (a, .inr (6, [.ref qk, .ref qp, .int (nI n), .int (bz fu), .int (bz fa)])), (qk, .inl (cB, 3000, .inl K)), (qp, .inl (cI, 18000, .inl P)), (b, .inr (6, [.ref qk2, .ref qp2, .int (nI n'_21), .int (bz fu'_24), .int (bz fa'_25)])), (qk2, .inl (cB, 3000, .inl K'_22)), (qp2, .inl (cI, 18000, .inl P'_23))] H := hP
          have hD : va_D A [(hm, .inr (1, [.ref a, .ref b, .ref qa, .ref qu, .ref qb, .ref qh, .ref qm])), (a, .inr (6, [.ref qk, .ref qp, .int (nI n), .int (bz fu), .int (bz fa)])), (qk, .inl (cB, 3000, .inl K)), (qp, .inl (cI, 18000, .inl P)), (b, .inr (6, [.ref qk2, .ref qp2, .int (nI n'_21), .int (bz fu'_24), .int (bz fa'_25)])), (qk2, .inl (cB, 3000, .inl K'_22)), (qp2, .inl (cI, 18000, .inl P'_23))] := hD
          refine W.eq (g2 := F0 m 170 ls []) rfl ?_
          refine lv_iinc (v := nI (i + 1)) (lv' := [(3, .int (nI (i + 1))), (4, .int 0), (0, .ref hm), (1, .int dx), (2, .int dy)]) hx hb d_M_shift_170 hl (k := 4) rfl (by first | exact nI_add _ 1 | rfl | decide) (by decide) rfl (fun ls hl => ?_)
          refine lv_goto (tgt := 9) hx hb d_M_shift_173 (by decide) ?_
          exact ih_9 (i + 1) n'_21 K'_22 P'_23 fu'_24 fa'_25 (by omega) (by omega) (hbg.1) (sh_n c_13 hF hbg.2) _ _ _ hP hD hS (lv_sub hl [2, 3, 4, 0] rfl)
        · skip
          refine lv_iconst (v := 1) hx hb d_M_shift_33 (by decide) ?_
          refine lv_goto (tgt := 38) hx hb d_M_shift_34 (by decide) ?_
          refine lv_istore (lv' := [(4, .int 1), (0, .ref hm), (1, .int dx), (2, .int dy), (3, .int (nI i))]) hx hb d_M_shift_38 hl (by decide) rfl (fun ls hl => ?_)
          refine lv_aload_n hx hb d_M_shift_40 rfl (lv_at hl 1 rfl) ?_
          refine va_get (D := D) (ci := 1) (v := .ref b) (C := R_M) (T := T_M) (N := 7) hx hb hts (ui_M _) hown hK hP 0 rfl rfl 1 (by decide) (hts _ (gwc gw_510)) (fun _ h9 => h9) rfl d_M_shift_41 ?_
          refine lv_aload_n hx hb d_M_shift_44 rfl (lv_at hl 1 rfl) ?_
          refine va_get (D := D) (ci := 1) (v := .ref a) (C := R_M) (T := T_M) (N := 7) hx hb hts (ui_M _) hown hK hP 0 rfl rfl 0 (by decide) (hts _ (gwc gw_509)) (fun _ h9 => h9) rfl d_M_shift_45 ?_
          refine va_getN (D := D) (ci := 6) (v := .ref qk) (C := R_MPath) (T := T_MPath) (N := 5) hx hb hts (ui_MPath _) hown hK hP 1 rfl rfl 0 (by decide) ((amb_nw_9 hM).use rfl) (fun _ h9 => h9) rfl d_M_shift_48 ?_
          refine lv_iload_n hx hb d_M_shift_51 rfl (lv_at hl 4 rfl) ?_
          refine ld_b hx hb hK hP 2 1 rfl rfl i (by omega) (by omega) d_M_shift_52 ?_
          refine lv_aload_n hx hb d_M_shift_53 rfl (lv_at hl 1 rfl) ?_
          refine va_get (D := D) (ci := 1) (v := .ref a) (C := R_M) (T := T_M) (N := 7) hx hb hts (ui_M _) hown hK hP 0 rfl rfl 0 (by decide) (hts _ (gwc gw_509)) (fun _ h9 => h9) rfl d_M_shift_54 ?_
          refine lv_iload_n hx hb d_M_shift_57 rfl (lv_at hl 4 rfl) ?_
          refine lv_iconst (v := 0) hx hb d_M_shift_58 (by decide) ?_
          refine ct_callV (ci := 6) (q0 := 1) (As := [.int (nI i), .int 0]) (rest := [.int (K i), .ref b]) (wr := [(hm, .inr (1, [.ref a, .ref b, .ref qa, .ref qu, .ref qb, .ref qh, .ref qm])), (b, .inr (6, [.ref qk2, .ref qp2, .int (nI n2), .int (bz fu2), .int (bz fa2)])), (qk2, .inl (cB, 3000, .inl K2)), (qp2, .inl (cI, 18000, .inl P2))]) (n := 2) (c_MPath_get l D cI cB cJ qQ  a qk qp n K P fu fa i 0 (by omega) (by omega)) hx hb hml hown hts (amb_ok qQ) hK hP hD hS hA hM (gi_V gw_540 gw_541 gw_542 gw_34 gw_543) rfl (by decide +kernel) ⟨by omega, by omega⟩ [1, 2, 3] [0, 4, 5, 6] rfl rfl rfl rfl (by decide) rfl rfl rfl hl.1 rfl (Nat.le_of_ble_eq_true rfl) d_M_shift_59 ⟨by omega, by omega⟩ (fun u_26 H locs hok hP hD hS => ?_)
          have hP : va_P D cl [(hm, .inr (1, [.ref a, .ref b, .ref qa, .ref qu, .ref qb, .ref qh, .ref qm])), (b, .inr (6, [.ref qk2, .ref qp2, .int (nI n2), .int (bz fu2), .int (bz fa2)])), (qk2, .inl (cB, 3000, .inl K2)), (qp2, .inl (cI, 18000, .inl P2)), (a, .inr (6, [.ref qk, .ref qp, .int (nI n), .int (bz fu), .int (bz fa)])), (qk, .inl (cB, 3000, .inl K)), (qp, .inl (cI, 18000, .inl P))] H := hP
          have hD : va_D A [(hm, .inr (1, [.ref a, .ref b, .ref qa, .ref qu, .ref qb, .ref qh, .ref qm])), (b, .inr (6, [.ref qk2, .ref qp2, .int (nI n2), .int (bz fu2), .int (bz fa2)])), (qk2, .inl (cB, 3000, .inl K2)), (qp2, .inl (cI, 18000, .inl P2)), (a, .inr (6, [.ref qk, .ref qp, .int (nI n), .int (bz fu), .int (bz fa)])), (qk, .inl (cB, 3000, .inl K)), (qp, .inl (cI, 18000, .inl P))] := hD
          refine W.eq (g2 := F0 m 62 ls [.int (P (6 * i + 0)), .int (K i), .ref b]) rfl ?_
          refine lv_i2l (v := (P (6 * i + 0)).toInt64) hx hb d_M_shift_62 rfl ?_
          refine lv_iload_n hx hb d_M_shift_63 rfl (lv_at hl 2 rfl) ?_
          refine lv_i2l (v := dx.toInt64) hx hb d_M_shift_64 rfl ?_
          refine lv_ladd hx hb d_M_shift_65 ?_
          refine lv_aload_n hx hb d_M_shift_66 rfl (lv_at hl 1 rfl) ?_
          refine va_get (D := D) (ci := 1) (v := .ref a) (C := R_M) (T := T_M) (N := 7) hx hb hts (ui_M _) hown hK hP 0 rfl rfl 0 (by decide) (hts _ (gwc gw_509)) (fun _ h9 => h9) rfl d_M_shift_67 ?_
          refine lv_iload_n hx hb d_M_shift_70 rfl (lv_at hl 4 rfl) ?_
          refine lv_iconst (v := 1) hx hb d_M_shift_71 (by decide) ?_
          refine ct_callV (ci := 6) (q0 := 4) (As := [.int (nI i), .int 1]) (rest := [.long (((P (6 * i + 0)).toInt64) + dx.toInt64), .int (K i), .ref b]) (wr := [(hm, .inr (1, [.ref a, .ref b, .ref qa, .ref qu, .ref qb, .ref qh, .ref qm])), (b, .inr (6, [.ref qk2, .ref qp2, .int (nI n2), .int (bz fu2), .int (bz fa2)])), (qk2, .inl (cB, 3000, .inl K2)), (qp2, .inl (cI, 18000, .inl P2))]) (n := 2) (c_MPath_get l D cI cB cJ qQ  a qk qp n K P fu fa i 1 (by omega) (by omega)) hx hb hml hown hts (amb_ok qQ) hK hP hD hS hA hM (gi_V gw_540 gw_541 gw_542 gw_34 gw_543) rfl (by decide +kernel) ⟨by omega, by omega⟩ [4, 5, 6] [0, 1, 2, 3] rfl rfl rfl rfl (by decide) rfl rfl rfl hl.1 rfl (Nat.le_of_ble_eq_true rfl) d_M_shift_72 ⟨by omega, by omega⟩ (fun u_27 H locs hok hP hD hS => ?_)
          have hP : va_P D cl [(hm, .inr (1, [.ref a, .ref b, .ref qa, .ref qu, .ref qb, .ref qh, .ref qm])), (b, .inr (6, [.ref qk2, .ref qp2, .int (nI n2), .int (bz fu2), .int (bz fa2)])), (qk2, .inl (cB, 3000, .inl K2)), (qp2, .inl (cI, 18000, .inl P2)), (a, .inr (6, [.ref qk, .ref qp, .int (nI n), .int (bz fu), .int (bz fa)])), (qk, .inl (cB, 3000, .inl K)), (qp, .inl (cI, 18000, .inl P))] H := hP
          have hD : va_D A [(hm, .inr (1, [.ref a, .ref b, .ref qa, .ref qu, .ref qb, .ref qh, .ref qm])), (b, .inr (6, [.ref qk2, .ref qp2, .int (nI n2), .int (bz fu2), .int (bz fa2)])), (qk2, .inl (cB, 3000, .inl K2)), (qp2, .inl (cI, 18000, .inl P2)), (a, .inr (6, [.ref qk, .ref qp, .int (nI n), .int (bz fu), .int (bz fa)])), (qk, .inl (cB, 3000, .inl K)), (qp, .inl (cI, 18000, .inl P))] := hD
          refine W.eq (g2 := F0 m 75 ls [.int (P (6 * i + 1)), .long (((P (6 * i + 0)).toInt64) + dx.toInt64), .int (K i), .ref b]) rfl ?_
          refine lv_i2l (v := (P (6 * i + 1)).toInt64) hx hb d_M_shift_75 rfl ?_
          refine lv_iload_n hx hb d_M_shift_76 rfl (lv_at hl 3 rfl) ?_
          refine lv_i2l (v := dy.toInt64) hx hb d_M_shift_77 rfl ?_
          refine lv_ladd hx hb d_M_shift_78 ?_
          refine lv_iload hx hb d_M_shift_79 (lv_at hl 0 rfl) ?_
          refine bz_eq (a1 := 1) (tgt := 100) hx hb (by omega) d_M_shift_81 (by decide) (fun c_28 => ?_) (fun c_28 => ?_)
          · exact absurd c_28 (by decide)
          refine lv_aload_n hx hb d_M_shift_84 rfl (lv_at hl 1 rfl) ?_
          refine va_get (D := D) (ci := 1) (v := .ref a) (C := R_M) (T := T_M) (N := 7) hx hb hts (ui_M _) hown hK hP 0 rfl rfl 0 (by decide) (hts _ (gwc gw_509)) (fun _ h9 => h9) rfl d_M_shift_85 ?_
          refine lv_iload_n hx hb d_M_shift_88 rfl (lv_at hl 4 rfl) ?_
          refine lv_iconst (v := 2) hx hb d_M_shift_89 (by decide) ?_
          refine ct_callV (ci := 6) (q0 := 4) (As := [.int (nI i), .int 2]) (rest := [.long (((P (6 * i + 1)).toInt64) + dy.toInt64), .long (((P (6 * i + 0)).toInt64) + dx.toInt64), .int (K i), .ref b]) (wr := [(hm, .inr (1, [.ref a, .ref b, .ref qa, .ref qu, .ref qb, .ref qh, .ref qm])), (b, .inr (6, [.ref qk2, .ref qp2, .int (nI n2), .int (bz fu2), .int (bz fa2)])), (qk2, .inl (cB, 3000, .inl K2)), (qp2, .inl (cI, 18000, .inl P2))]) (n := 2) (c_MPath_get l D cI cB cJ qQ  a qk qp n K P fu fa i 2 (by omega) (by omega)) hx hb hml hown hts (amb_ok qQ) hK hP hD hS hA hM (gi_V gw_540 gw_541 gw_542 gw_34 gw_543) rfl (by decide +kernel) ⟨by omega, by omega⟩ [4, 5, 6] [0, 1, 2, 3] rfl rfl rfl rfl (by decide) rfl rfl rfl hl.1 rfl (Nat.le_of_ble_eq_true rfl) d_M_shift_90 ⟨by omega, by omega⟩ (fun u_29 H locs hok hP hD hS => ?_)
          have hP : va_P D cl [(hm, .inr (1, [.ref a, .ref b, .ref qa, .ref qu, .ref qb, .ref qh, .ref qm])), (b, .inr (6, [.ref qk2, .ref qp2, .int (nI n2), .int (bz fu2), .int (bz fa2)])), (qk2, .inl (cB, 3000, .inl K2)), (qp2, .inl (cI, 18000, .inl P2)), (a, .inr (6, [.ref qk, .ref qp, .int (nI n), .int (bz fu), .int (bz fa)])), (qk, .inl (cB, 3000, .inl K)), (qp, .inl (cI, 18000, .inl P))] H := hP
          have hD : va_D A [(hm, .inr (1, [.ref a, .ref b, .ref qa, .ref qu, .ref qb, .ref qh, .ref qm])), (b, .inr (6, [.ref qk2, .ref qp2, .int (nI n2), .int (bz fu2), .int (bz fa2)])), (qk2, .inl (cB, 3000, .inl K2)), (qp2, .inl (cI, 18000, .inl P2)), (a, .inr (6, [.ref qk, .ref qp, .int (nI n), .int (bz fu), .int (bz fa)])), (qk, .inl (cB, 3000, .inl K)), (qp, .inl (cI, 18000, .inl P))] := hD
          refine W.eq (g2 := F0 m 93 ls [.int (P (6 * i + 2)), .long (((P (6 * i + 1)).toInt64) + dy.toInt64), .long (((P (6 * i + 0)).toInt64) + dx.toInt64), .int (K i), .ref b]) rfl ?_
          refine lv_i2l (v := (P (6 * i + 2)).toInt64) hx hb d_M_shift_93 rfl ?_
          refine lv_iload_n hx hb d_M_shift_94 rfl (lv_at hl 2 rfl) ?_
          refine lv_i2l (v := dx.toInt64) hx hb d_M_shift_95 rfl ?_
          refine lv_ladd hx hb d_M_shift_96 ?_
          refine lv_goto (tgt := 101) hx hb d_M_shift_97 (by decide) ?_
          refine lv_iload hx hb d_M_shift_101 (lv_at hl 0 rfl) ?_
          refine bz_eq (a1 := 1) (tgt := 122) hx hb (by omega) d_M_shift_103 (by decide) (fun c_30 => ?_) (fun c_30 => ?_)
          · exact absurd c_30 (by decide)
          refine lv_aload_n hx hb d_M_shift_106 rfl (lv_at hl 1 rfl) ?_
          refine va_get (D := D) (ci := 1) (v := .ref a) (C := R_M) (T := T_M) (N := 7) hx hb hts (ui_M _) hown hK hP 0 rfl rfl 0 (by decide) (hts _ (gwc gw_509)) (fun _ h9 => h9) rfl d_M_shift_107 ?_
          refine lv_iload_n hx hb d_M_shift_110 rfl (lv_at hl 4 rfl) ?_
          refine lv_iconst (v := 3) hx hb d_M_shift_111 (by decide) ?_
          refine ct_callV (ci := 6) (q0 := 4) (As := [.int (nI i), .int 3]) (rest := [.long (((P (6 * i + 2)).toInt64) + dx.toInt64), .long (((P (6 * i + 1)).toInt64) + dy.toInt64), .long (((P (6 * i + 0)).toInt64) + dx.toInt64), .int (K i), .ref b]) (wr := [(hm, .inr (1, [.ref a, .ref b, .ref qa, .ref qu, .ref qb, .ref qh, .ref qm])), (b, .inr (6, [.ref qk2, .ref qp2, .int (nI n2), .int (bz fu2), .int (bz fa2)])), (qk2, .inl (cB, 3000, .inl K2)), (qp2, .inl (cI, 18000, .inl P2))]) (n := 2) (c_MPath_get l D cI cB cJ qQ  a qk qp n K P fu fa i 3 (by omega) (by omega)) hx hb hml hown hts (amb_ok qQ) hK hP hD hS hA hM (gi_V gw_540 gw_541 gw_542 gw_34 gw_543) rfl (by decide +kernel) ⟨by omega, by omega⟩ [4, 5, 6] [0, 1, 2, 3] rfl rfl rfl rfl (by decide) rfl rfl rfl hl.1 rfl (Nat.le_of_ble_eq_true rfl) d_M_shift_112 ⟨by omega, by omega⟩ (fun u_31 H locs hok hP hD hS => ?_)
          have hP : va_P D cl [(hm, .inr (1, [.ref a, .ref b, .ref qa, .ref qu, .ref qb, .ref qh, .ref qm])), (b, .inr (6, [.ref qk2, .ref qp2, .int (nI n2), .int (bz fu2), .int (bz fa2)])), (qk2, .inl (cB, 3000, .inl K2)), (qp2, .inl (cI, 18000, .inl P2)), (a, .inr (6, [.ref qk, .ref qp, .int (nI n), .int (bz fu), .int (bz fa)])), (qk, .inl (cB, 3000, .inl K)), (qp, .inl (cI, 18000, .inl P))] H := hP
          have hD : va_D A [(hm, .inr (1, [.ref a, .ref b, .ref qa, .ref qu, .ref qb, .ref qh, .ref qm])), (b, .inr (6, [.ref qk2, .ref qp2, .int (nI n2), .int (bz fu2), .int (bz fa2)])), (qk2, .inl (cB, 3000, .inl K2)), (qp2, .inl (cI, 18000, .inl P2)), (a, .inr (6, [.ref qk, .ref qp, .int (nI n), .int (bz fu), .int (bz fa)])), (qk, .inl (cB, 3000, .inl K)), (qp, .inl (cI, 18000, .inl P))] := hD
          refine W.eq (g2 := F0 m 115 ls [.int (P (6 * i + 3)), .long (((P (6 * i + 2)).toInt64) + dx.toInt64), .long (((P (6 * i + 1)).toInt64) + dy.toInt64), .long (((P (6 * i + 0)).toInt64) + dx.toInt64), .int (K i), .ref b]) rfl ?_
          refine lv_i2l (v := (P (6 * i + 3)).toInt64) hx hb d_M_shift_115 rfl ?_
          refine lv_iload_n hx hb d_M_shift_116 rfl (lv_at hl 3 rfl) ?_
          refine lv_i2l (v := dy.toInt64) hx hb d_M_shift_117 rfl ?_
          refine lv_ladd hx hb d_M_shift_118 ?_
          refine lv_goto (tgt := 123) hx hb d_M_shift_119 (by decide) ?_
          refine lv_iload hx hb d_M_shift_123 (lv_at hl 0 rfl) ?_
          refine bz_eq (a1 := 1) (tgt := 144) hx hb (by omega) d_M_shift_125 (by decide) (fun c_32 => ?_) (fun c_32 => ?_)
          · exact absurd c_32 (by decide)
          refine lv_aload_n hx hb d_M_shift_128 rfl (lv_at hl 1 rfl) ?_
          refine va_get (D := D) (ci := 1) (v := .ref a) (C := R_M) (T := T_M) (N := 7) hx hb hts (ui_M _) hown hK hP 0 rfl rfl 0 (by decide) (hts _ (gwc gw_509)) (fun _ h9 => h9) rfl d_M_shift_129 ?_
          refine lv_iload_n hx hb d_M_shift_132 rfl (lv_at hl 4 rfl) ?_
          refine lv_iconst (v := 4) hx hb d_M_shift_133 (by decide) ?_
          refine ct_callVW (ci := 6) (q0 := 4) (As := [.int (nI i), .int 4]) (rest := [.long (((P (6 * i + 3)).toInt64) + dy.toInt64), .long (((P (6 * i + 2)).toInt64) + dx.toInt64), .long (((P (6 * i + 1)).toInt64) + dy.toInt64), .long (((P (6 * i + 0)).toInt64) + dx.toInt64), .int (K i), .ref b]) (wr := [(hm, .inr (1, [.ref a, .ref b, .ref qa, .ref qu, .ref qb, .ref qh, .ref qm])), (b, .inr (6, [.ref qk2, .ref qp2, .int (nI n2), .int (bz fu2), .int (bz fa2)])), (qk2, .inl (cB, 3000, .inl K2)), (qp2, .inl (cI, 18000, .inl P2))]) (n := 2) 10 (by decide) (c_MPath_get l D cI cB cJ qQ  a qk qp n K P fu fa i 4 (by omega) (by omega)) hx hb hml hown hts (amb_ok qQ) hK hP hD hS hA hM (gi_V gw_540 gw_541 gw_542 gw_34 gw_543) rfl (by decide +kernel) ⟨by omega, by omega⟩ [4, 5, 6] [0, 1, 2, 3] rfl rfl rfl rfl (by decide) rfl rfl rfl hl.1 rfl (Nat.le_of_ble_eq_true rfl) d_M_shift_134 ⟨by omega, by omega⟩ (fun u_33 H locs hok hP hD hS => ?_)
          have hP : va_P D cl [(hm, .inr (1, [.ref a, .ref b, .ref qa, .ref qu, .ref qb, .ref qh, .ref qm])), (b, .inr (6, [.ref qk2, .ref qp2, .int (nI n2), .int (bz fu2), .int (bz fa2)])), (qk2, .inl (cB, 3000, .inl K2)), (qp2, .inl (cI, 18000, .inl P2)), (a, .inr (6, [.ref qk, .ref qp, .int (nI n), .int (bz fu), .int (bz fa)])), (qk, .inl (cB, 3000, .inl K)), (qp, .inl (cI, 18000, .inl P))] H := hP
          have hD : va_D A [(hm, .inr (1, [.ref a, .ref b, .ref qa, .ref qu, .ref qb, .ref qh, .ref qm])), (b, .inr (6, [.ref qk2, .ref qp2, .int (nI n2), .int (bz fu2), .int (bz fa2)])), (qk2, .inl (cB, 3000, .inl K2)), (qp2, .inl (cI, 18000, .inl P2)), (a, .inr (6, [.ref qk, .ref qp, .int (nI n), .int (bz fu), .int (bz fa)])), (qk, .inl (cB, 3000, .inl K)), (qp, .inl (cI, 18000, .inl P))] := hD
          refine W.eq (g2 := F0 m 137 ls [.int (P (6 * i + 4)), .long (((P (6 * i + 3)).toInt64) + dy.toInt64), .long (((P (6 * i + 2)).toInt64) + dx.toInt64), .long (((P (6 * i + 1)).toInt64) + dy.toInt64), .long (((P (6 * i + 0)).toInt64) + dx.toInt64), .int (K i), .ref b]) rfl ?_
          refine lv_i2l (v := (P (6 * i + 4)).toInt64) hx hb d_M_shift_137 rfl ?_
          refine lv_iload_n hx hb d_M_shift_138 rfl (lv_at hl 2 rfl) ?_
          refine lv_i2l (v := dx.toInt64) hx hb d_M_shift_139 rfl ?_
          refine lv_ladd hx hb d_M_shift_140 ?_
          refine lv_goto (tgt := 145) hx hb d_M_shift_141 (by decide) ?_
          refine lv_iload hx hb d_M_shift_145 (lv_at hl 0 rfl) ?_
          refine bz_eq (a1 := 1) (tgt := 166) hx hb (by omega) d_M_shift_147 (by decide) (fun c_34 => ?_) (fun c_34 => ?_)
          · exact absurd c_34 (by decide)
          refine lv_aload_n hx hb d_M_shift_150 rfl (lv_at hl 1 rfl) ?_
          refine va_get (D := D) (ci := 1) (v := .ref a) (C := R_M) (T := T_M) (N := 7) hx hb hts (ui_M _) hown hK hP 0 rfl rfl 0 (by decide) (hts _ (gwc gw_509)) (fun _ h9 => h9) rfl d_M_shift_151 ?_
          refine lv_iload_n hx hb d_M_shift_154 rfl (lv_at hl 4 rfl) ?_
          refine lv_iconst (v := 5) hx hb d_M_shift_155 (by decide) ?_
          refine ct_callVW (ci := 6) (q0 := 4) (As := [.int (nI i), .int 5]) (rest := [.long (((P (6 * i + 4)).toInt64) + dx.toInt64), .long (((P (6 * i + 3)).toInt64) + dy.toInt64), .long (((P (6 * i + 2)).toInt64) + dx.toInt64), .long (((P (6 * i + 1)).toInt64) + dy.toInt64), .long (((P (6 * i + 0)).toInt64) + dx.toInt64), .int (K i), .ref b]) (wr := [(hm, .inr (1, [.ref a, .ref b, .ref qa, .ref qu, .ref qb, .ref qh, .ref qm])), (b, .inr (6, [.ref qk2, .ref qp2, .int (nI n2), .int (bz fu2), .int (bz fa2)])), (qk2, .inl (cB, 3000, .inl K2)), (qp2, .inl (cI, 18000, .inl P2))]) (n := 2) 12 (by decide) (c_MPath_get l D cI cB cJ qQ  a qk qp n K P fu fa i 5 (by omega) (by omega)) hx hb hml hown hts (amb_ok qQ) hK hP hD hS hA hM (gi_V gw_540 gw_541 gw_542 gw_34 gw_543) rfl (by decide +kernel) ⟨by omega, by omega⟩ [4, 5, 6] [0, 1, 2, 3] rfl rfl rfl rfl (by decide) rfl rfl rfl hl.1 rfl (Nat.le_of_ble_eq_true rfl) d_M_shift_156 ⟨by omega, by omega⟩ (fun u_35 H locs hok hP hD hS => ?_)
          have hP : va_P D cl [(hm, .inr (1, [.ref a, .ref b, .ref qa, .ref qu, .ref qb, .ref qh, .ref qm])), (b, .inr (6, [.ref qk2, .ref qp2, .int (nI n2), .int (bz fu2), .int (bz fa2)])), (qk2, .inl (cB, 3000, .inl K2)), (qp2, .inl (cI, 18000, .inl P2)), (a, .inr (6, [.ref qk, .ref qp, .int (nI n), .int (bz fu), .int (bz fa)])), (qk, .inl (cB, 3000, .inl K)), (qp, .inl (cI, 18000, .inl P))] H := hP
          have hD : va_D A [(hm, .inr (1, [.ref a, .ref b, .ref qa, .ref qu, .ref qb, .ref qh, .ref qm])), (b, .inr (6, [.ref qk2, .ref qp2, .int (nI n2), .int (bz fu2), .int (bz fa2)])), (qk2, .inl (cB, 3000, .inl K2)), (qp2, .inl (cI, 18000, .inl P2)), (a, .inr (6, [.ref qk, .ref qp, .int (nI n), .int (bz fu), .int (bz fa)])), (qk, .inl (cB, 3000, .inl K)), (qp, .inl (cI, 18000, .inl P))] := hD
          refine W.eq (g2 := F0 m 159 ls [.int (P (6 * i + 5)), .long (((P (6 * i + 4)).toInt64) + dx.toInt64), .long (((P (6 * i + 3)).toInt64) + dy.toInt64), .long (((P (6 * i + 2)).toInt64) + dx.toInt64), .long (((P (6 * i + 1)).toInt64) + dy.toInt64), .long (((P (6 * i + 0)).toInt64) + dx.toInt64), .int (K i), .ref b]) rfl ?_
          refine lv_i2l (v := (P (6 * i + 5)).toInt64) hx hb d_M_shift_159 rfl ?_
          refine lv_iload_n hx hb d_M_shift_160 rfl (lv_at hl 3 rfl) ?_
          refine lv_i2l (v := dy.toInt64) hx hb d_M_shift_161 rfl ?_
          refine lv_ladd hx hb d_M_shift_162 ?_
          refine lv_goto (tgt := 167) hx hb d_M_shift_163 (by decide) ?_
          refine ct_callV (ci := 6) (q0 := 1) (As := [.int (K i), .long (((P (6 * i + 0)).toInt64) + dx.toInt64), .long (((P (6 * i + 1)).toInt64) + dy.toInt64), .long (((P (6 * i + 2)).toInt64) + dx.toInt64), .long (((P (6 * i + 3)).toInt64) + dy.toInt64), .long (((P (6 * i + 4)).toInt64) + dx.toInt64), .long (((P (6 * i + 5)).toInt64) + dy.toInt64)]) (rest := []) (wr := [(hm, .inr (1, [.ref a, .ref b, .ref qa, .ref qu, .ref qb, .ref qh, .ref qm])), (a, .inr (6, [.ref qk, .ref qp, .int (nI n), .int (bz fu), .int (bz fa)])), (qk, .inl (cB, 3000, .inl K)), (qp, .inl (cI, 18000, .inl P))]) (n := 7) (c_MPath_add l D cI cB cJ qQ  b qk2 qp2 n2 K2 P2 fu2 fa2 (K i) (((P (6 * i + 0)).toInt64) + dx.toInt64) (((P (6 * i + 1)).toInt64) + dy.toInt64) (((P (6 * i + 2)).toInt64) + dx.toInt64) (((P (6 * i + 3)).toInt64) + dy.toInt64) (((P (6 * i + 4)).toInt64) + dx.toInt64) (((P (6 * i + 5)).toInt64) + dy.toInt64) (hn2) (hk i (by omega))) hx hb hml hown hts (amb_ok qQ) hK hP hD hS hA hM (gi_V gw_592 gw_565 gw_566 gw_34 gw_567) rfl (by decide +kernel) ⟨by omega, by omega⟩ [1, 2, 3] [0, 4, 5, 6] rfl rfl rfl rfl (by decide) rfl rfl rfl hl.1 rfl (Nat.le_of_ble_eq_true rfl) d_M_shift_167 ⟨by omega, by omega⟩ (fun u_36 H locs hok hP hD hS => ?_)
          obtain ⟨n'_37, K'_38, P'_39, fu'_40, fa'_41⟩ := u_36
          have hbg : n'_37 ≤ 3000 ∧ (lst n'_37 K'_38 P'_39, fu'_40, fa'_41) = addD (lst n2 K2 P2, fu2, fa2) (K i) (((P (6 * i + 0)).toInt64) + dx.toInt64) (((P (6 * i + 1)).toInt64) + dy.toInt64) (((P (6 * i + 2)).toInt64) + dx.toInt64) (((P (6 * i + 3)).toInt64) + dy.toInt64) (((P (6 * i + 4)).toInt64) + dx.toInt64) (((P (6 * i + 5)).toInt64) + dy.toInt64) := hok
          have hP : va_P D cl [(hm, .inr (1, [.ref a, .ref b, .ref qa, .ref qu, .ref qb, .ref qh, .ref qm])), (a, .inr (6, [.ref qk, .ref qp, .int (nI n), .int (bz fu), .int (bz fa)])), (qk, .inl (cB, 3000, .inl K)), (qp, .inl (cI, 18000, .inl P)), (b, .inr (6, [.ref qk2, .ref qp2, .int (nI n'_37), .int (bz fu'_40), .int (bz fa'_41)])), (qk2, .inl (cB, 3000, .inl K'_38)), (qp2, .inl (cI, 18000, .inl P'_39))] H := hP
          have hD : va_D A [(hm, .inr (1, [.ref a, .ref b, .ref qa, .ref qu, .ref qb, .ref qh, .ref qm])), (a, .inr (6, [.ref qk, .ref qp, .int (nI n), .int (bz fu), .int (bz fa)])), (qk, .inl (cB, 3000, .inl K)), (qp, .inl (cI, 18000, .inl P)), (b, .inr (6, [.ref qk2, .ref qp2, .int (nI n'_37), .int (bz fu'_40), .int (bz fa'_41)])), (qk2, .inl (cB, 3000, .inl K'_38)), (qp2, .inl (cI, 18000, .inl P'_39))] := hD
          refine W.eq (g2 := F0 m 170 ls []) rfl ?_
          refine lv_iinc (v := nI (i + 1)) (lv' := [(3, .int (nI (i + 1))), (4, .int 1), (0, .ref hm), (1, .int dx), (2, .int dy)]) hx hb d_M_shift_170 hl (k := 4) rfl (by first | exact nI_add _ 1 | rfl | decide) (by decide) rfl (fun ls hl => ?_)
          refine lv_goto (tgt := 9) hx hb d_M_shift_173 (by decide) ?_
          exact ih_9 (i + 1) n'_37 K'_38 P'_39 fu'_40 fa'_41 (by omega) (by omega) (hbg.1) (sh_y c_13 hF hbg.2) _ _ _ hP hD hS (lv_sub hl [2, 3, 4, 0] rfl)
  exact L_9 ((n - 0) + 1) 0 0 K2 P2 false false (Nat.lt_succ_self _) (by omega) (by omega) (rfl) _ _ _ hP hD hS (lv_sub hl [1, 2, 3, 0] rfl)
set_option maxHeartbeats 40000000 in
set_option maxRecDepth 100000 in
/-- turn -/
theorem c_M_turn0 (l : Launch) (D : va_G) (cI cB cJ : ClassId) (qQ : Nat) (hm : Nat) (a : Nat) (b : Nat) (qa : Nat) (qu : Nat) (qb : Nat) (qh : Nat) (qm : Nat) (qk : Nat) (qp : Nat) (n : Nat) (K : Nat → Int32) (P : Nat → Int32) (fu : Bool) (fa : Bool) (qk2 : Nat) (qp2 : Nat) (n2 : Nat) (K2 : Nat → Int32) (P2 : Nat → Int32) (fu2 : Bool) (fa2 : Bool) (f : Nat) (e_ : Nat) (hn : n ≤ 3000) (hk : ∀ i, i < n → kok (K i)) (hn2 : n2 ≤ 3000) (hfe : f + 1 ≤ e_) (hen : e_ ≤ n) (hc : ¬ K (e_ - 1) = 3) : ct l D cl [(cI, .int), (cB, .byte), (cJ, .long)] (amb qQ) y_M_turn w_M_turn 3 79 (0) (0) [.ref hm, .int (nI f), .int (nI e_)] [(hm, .inr (1, [.ref a, .ref b, .ref qa, .ref qu, .ref qb, .ref qh, .ref qm])), (a, .inr (6, [.ref qk, .ref qp, .int (nI n), .int (bz fu), .int (bz fa)])), (qk, .inl (cB, 3000, .inl K)), (qp, .inl (cI, 18000, .inl P)), (b, .inr (6, [.ref qk2, .ref qp2, .int (nI n2), .int (bz fu2), .int (bz fa2)])), (qk2, .inl (cB, 3000, .inl K2)), (qp2, .inl (cI, 18000, .inl P2))] (fun u_ : Nat × (Nat → Int32) × (Nat → Int32) × Bool × Bool => match u_ with | (n', K', P', fu', fa') => n' ≤ 3000 ∧ (lst n' K' P', fu', fa') = turnD (gp (lst n K P)) (lst n2 K2 P2, fu2, fa2) f e_) (fun u_ : Nat × (Nat → Int32) × (Nat → Int32) × Bool × Bool => match u_ with | (n', K', P', fu', fa') => none) (fun u_ : Nat × (Nat → Int32) × (Nat → Int32) × Bool × Bool => match u_ with | (n', K', P', fu', fa') => [(hm, .inr (1, [.ref a, .ref b, .ref qa, .ref qu, .ref qb, .ref qh, .ref qm])), (a, .inr (6, [.ref qk, .ref qp, .int (nI n), .int (bz fu), .int (bz fa)])), (qk, .inl (cB, 3000, .inl K)), (qp, .inl (cI, 18000, .inl P)), (b, .inr (6, [.ref qk2, .ref qp2, .int (nI n'), .int (bz fu'), .int (bz fa')])), (qk2, .inl (cB, 3000, .inl K')), (qp2, .inl (cI, 18000, .inl P'))]) := by
  refine ct_ofW (cc := b_M_turn) (maxL := 7) (ret := none) (by decide) rfl (Nat.le_of_ble_eq_true rfl) ?_
  intro p e R s m args below meth c A Q ls hx hb hr hml hts hown hlocks hname hRf hRc hRs hRl hQ hK hP hD hS hA hM hl
  have hl : lv_has ls 7 [(0, .ref hm), (1, .int (nI f)), (2, .int (nI e_))] := hl
  refine lv_aload_n hx hb d_M_turn_0 rfl (lv_at hl 0 rfl) ?_
  refine va_get (D := D) (ci := 1) (v := .ref a) (C := R_M) (T := T_M) (N := 7) hx hb hts (ui_M _) hown hK hP 0 rfl rfl 0 (by decide) (hts _ (gwc gw_509)) (fun _ h9 => h9) rfl d_M_turn_1 ?_
  refine va_getN (D := D) (ci := 6) (v := .ref qk) (C := R_MPath) (T := T_MPath) (N := 5) hx hb hts (ui_MPath _) hown hK hP 1 rfl rfl 0 (by decide) ((amb_nw_9 hM).use rfl) (fun _ h9 => h9) rfl d_M_turn_4 ?_
  refine lv_iload_n hx hb d_M_turn_7 rfl (lv_at hl 2 rfl) ?_
  refine lv_iconst (v := 1) hx hb d_M_turn_8 (by decide) ?_
  refine lv_isub hx hb d_M_turn_9 ?_
  refine tp_i (nI (e_ - 1)) (pk_sub (a := e_) (b := 1) (by omega)) ?_
  refine ld_b hx hb hK hP 2 1 rfl rfl (e_ - 1) (by omega) (by omega) d_M_turn_10 ?_
  refine lv_iconst (v := 3) hx hb d_M_turn_11 (by decide) ?_
  refine lv_icmp_ne (tgt := 19) hx hb d_M_turn_12 (by decide) (fun c_1 => ?_) (fun c_1 => ?_)
  · skip
    refine lv_iconst (v := 0) hx hb d_M_turn_19 (by decide) ?_
    refine lv_istore_n (lv' := [(3, .int 0), (0, .ref hm), (1, .int (nI f)), (2, .int (nI e_))]) hx hb d_M_turn_20 rfl hl (by decide) rfl (fun ls hl => ?_)
    refine lv_iload_n hx hb d_M_turn_21 rfl (lv_at hl 0 rfl) ?_
    refine bz_eq (a1 := 0) (tgt := 31) hx hb (by omega) d_M_turn_22 (by decide) (fun c_2 => ?_) (fun c_2 => ?_)
    rotate_left
    · exact absurd c_2 (by decide)
    refine lv_iload_n hx hb d_M_turn_31 rfl (lv_at hl 3 rfl) ?_
    refine lv_iconst (v := 1) hx hb d_M_turn_32 (by decide) ?_
    refine lv_isub hx hb d_M_turn_33 ?_
    refine tp_i (nI (e_ - 1)) (pk_sub (a := e_) (b := 1) (by omega)) ?_
    refine lv_istore (lv' := [(4, .int (nI (e_ - 1))), (3, .int 0), (0, .ref hm), (1, .int (nI f)), (2, .int (nI e_))]) hx hb d_M_turn_34 hl (by decide) rfl (fun ls hl => ?_)
    refine lv_aload_n hx hb d_M_turn_36 rfl (lv_at hl 2 rfl) ?_
    refine va_get (D := D) (ci := 1) (v := .ref b) (C := R_M) (T := T_M) (N := 7) hx hb hts (ui_M _) hown hK hP 0 rfl rfl 1 (by decide) (hts _ (gwc gw_510)) (fun _ h9 => h9) rfl d_M_turn_37 ?_
    refine lv_iconst (v := 0) hx hb d_M_turn_40 (by decide) ?_
    refine lv_aload_n hx hb d_M_turn_41 rfl (lv_at hl 2 rfl) ?_
    refine va_get (D := D) (ci := 1) (v := .ref a) (C := R_M) (T := T_M) (N := 7) hx hb hts (ui_M _) hown hK hP 0 rfl rfl 0 (by decide) (hts _ (gwc gw_509)) (fun _ h9 => h9) rfl d_M_turn_42 ?_
    refine lv_iload hx hb d_M_turn_45 (lv_at hl 0 rfl) ?_
    refine lv_iconst (v := 0) hx hb d_M_turn_47 (by decide) ?_
    refine ct_callV (ci := 6) (q0 := 1) (As := [.int (nI (e_ - 1)), .int 0]) (rest := [.int 0, .ref b]) (wr := [(hm, .inr (1, [.ref a, .ref b, .ref qa, .ref qu, .ref qb, .ref qh, .ref qm])), (b, .inr (6, [.ref qk2, .ref qp2, .int (nI n2), .int (bz fu2), .int (bz fa2)])), (qk2, .inl (cB, 3000, .inl K2)), (qp2, .inl (cI, 18000, .inl P2))]) (n := 2) (c_MPath_get l D cI cB cJ qQ  a qk qp n K P fu fa (e_ - 1) 0 (by omega) (by omega)) hx hb hml hown hts (amb_ok qQ) hK hP hD hS hA hM (gi_V gw_540 gw_541 gw_542 gw_34 gw_543) rfl (by decide +kernel) ⟨by omega, by omega⟩ [1, 2, 3] [0, 4, 5, 6] rfl rfl rfl rfl (by decide) rfl rfl rfl hl.1 rfl (Nat.le_of_ble_eq_true rfl) d_M_turn_48 ⟨by omega, by omega⟩ (fun u_3 H locs hok hP hD hS => ?_)
    have hP : va_P D cl [(hm, .inr (1, [.ref a, .ref b, .ref qa, .ref qu, .ref qb, .ref qh, .ref qm])), (b, .inr (6, [.ref qk2, .ref qp2, .int (nI n2), .int (bz fu2), .int (bz fa2)])), (qk2, .inl (cB, 3000, .inl K2)), (qp2, .inl (cI, 18000, .inl P2)), (a, .inr (6, [.ref qk, .ref qp, .int (nI n), .int (bz fu), .int (bz fa)])), (qk, .inl (cB, 3000, .inl K)), (qp, .inl (cI, 18000, .inl P))] H := hP
    have hD : va_D A [(hm, .inr (1, [.ref a, .ref b, .ref qa, .ref qu, .ref qb, .ref qh, .ref qm])), (b, .inr (6, [.ref qk2, .ref qp2, .int (nI n2), .int (bz fu2), .int (bz fa2)])), (qk2, .inl (cB, 3000, .inl K2)), (qp2, .inl (cI, 18000, .inl P2)), (a, .inr (6, [.ref qk, .ref qp, .int (nI n), .int (bz fu), .int (bz fa)])), (qk, .inl (cB, 3000, .inl K)), (qp, .inl (cI, 18000, .inl P))] := hD
    refine W.eq (g2 := F0 m 51 ls [.int (P (6 * (e_ - 1) + 0)), .int 0, .ref b]) rfl ?_
    refine lv_i2l (v := (P (6 * (e_ - 1) + 0)).toInt64) hx hb d_M_turn_51 rfl ?_
    refine lv_aload_n hx hb d_M_turn_52 rfl (lv_at hl 2 rfl) ?_
    refine va_get (D := D) (ci := 1) (v := .ref a) (C := R_M) (T := T_M) (N := 7) hx hb hts (ui_M _) hown hK hP 0 rfl rfl 0 (by decide) (hts _ (gwc gw_509)) (fun _ h9 => h9) rfl d_M_turn_53 ?_
    refine lv_iload hx hb d_M_turn_56 (lv_at hl 0 rfl) ?_
    refine lv_iconst (v := 1) hx hb d_M_turn_58 (by decide) ?_
    refine ct_callV (ci := 6) (q0 := 4) (As := [.int (nI (e_ - 1)), .int 1]) (rest := [.long ((P (6 * (e_ - 1) + 0)).toInt64), .int 0, .ref b]) (wr := [(hm, .inr (1, [.ref a, .ref b, .ref qa, .ref qu, .ref qb, .ref qh, .ref qm])), (b, .inr (6, [.ref qk2, .ref qp2, .int (nI n2), .int (bz fu2), .int (bz fa2)])), (qk2, .inl (cB, 3000, .inl K2)), (qp2, .inl (cI, 18000, .inl P2))]) (n := 2) (c_MPath_get l D cI cB cJ qQ  a qk qp n K P fu fa (e_ - 1) 1 (by omega) (by omega)) hx hb hml hown hts (amb_ok qQ) hK hP hD hS hA hM (gi_V gw_540 gw_541 gw_542 gw_34 gw_543) rfl (by decide +kernel) ⟨by omega, by omega⟩ [4, 5, 6] [0, 1, 2, 3] rfl rfl rfl rfl (by decide) rfl rfl rfl hl.1 rfl (Nat.le_of_ble_eq_true rfl) d_M_turn_59 ⟨by omega, by omega⟩ (fun u_4 H locs hok hP hD hS => ?_)
    have hP : va_P D cl [(hm, .inr (1, [.ref a, .ref b, .ref qa, .ref qu, .ref qb, .ref qh, .ref qm])), (b, .inr (6, [.ref qk2, .ref qp2, .int (nI n2), .int (bz fu2), .int (bz fa2)])), (qk2, .inl (cB, 3000, .inl K2)), (qp2, .inl (cI, 18000, .inl P2)), (a, .inr (6, [.ref qk, .ref qp, .int (nI n), .int (bz fu), .int (bz fa)])), (qk, .inl (cB, 3000, .inl K)), (qp, .inl (cI, 18000, .inl P))] H := hP
    have hD : va_D A [(hm, .inr (1, [.ref a, .ref b, .ref qa, .ref qu, .ref qb, .ref qh, .ref qm])), (b, .inr (6, [.ref qk2, .ref qp2, .int (nI n2), .int (bz fu2), .int (bz fa2)])), (qk2, .inl (cB, 3000, .inl K2)), (qp2, .inl (cI, 18000, .inl P2)), (a, .inr (6, [.ref qk, .ref qp, .int (nI n), .int (bz fu), .int (bz fa)])), (qk, .inl (cB, 3000, .inl K)), (qp, .inl (cI, 18000, .inl P))] := hD
    refine W.eq (g2 := F0 m 62 ls [.int (P (6 * (e_ - 1) + 1)), .long ((P (6 * (e_ - 1) + 0)).toInt64), .int 0, .ref b]) rfl ?_
    refine lv_i2l (v := (P (6 * (e_ - 1) + 1)).toInt64) hx hb d_M_turn_62 rfl ?_
    refine ct_callV (ci := 6) (q0 := 1) (As := [.int 0, .long ((P (6 * (e_ - 1) + 0)).toInt64), .long ((P (6 * (e_ - 1) + 1)).toInt64)]) (rest := []) (wr := [(hm, .inr (1, [.ref a, .ref b, .ref qa, .ref qu, .ref qb, .ref qh, .ref qm])), (a, .inr (6, [.ref qk, .ref qp, .int (nI n), .int (bz fu), .int (bz fa)])), (qk, .inl (cB, 3000, .inl K)), (qp, .inl (cI, 18000, .inl P))]) (n := 3) (c_MPath_addPoint l D cI cB cJ qQ  b qk2 qp2 n2 K2 P2 fu2 fa2 0 ((P (6 * (e_ - 1) + 0)).toInt64) ((P (6 * (e_ - 1) + 1)).toInt64) (hn2) (kok0)) hx hb hml hown hts (amb_ok qQ) hK hP hD hS hA hM (gi_V gw_587 gw_561 gw_562 gw_34 gw_563) rfl (by decide +kernel) ⟨by omega, by omega⟩ [1, 2, 3] [0, 4, 5, 6] rfl rfl rfl rfl (by decide) rfl rfl rfl hl.1 rfl (Nat.le_of_ble_eq_true rfl) d_M_turn_63 ⟨by omega, by omega⟩ (fun u_5 H locs hok hP hD hS => ?_)
    obtain ⟨n'_6, K'_7, P'_8, fu'_9, fa'_10⟩ := u_5
    have hb1 : n'_6 ≤ 3000 ∧ (lst n'_6 K'_7 P'_8, fu'_9, fa'_10) = addD (lst n2 K2 P2, fu2, fa2) 0 ((P (6 * (e_ - 1) + 0)).toInt64) ((P (6 * (e_ - 1) + 1)).toInt64) 0 0 0 0 := hok
    have hP : va_P D cl [(hm, .inr (1, [.ref a, .ref b, .ref qa, .ref qu, .ref qb, .ref qh, .ref qm])), (a, .inr (6, [.ref qk, .ref qp, .int (nI n), .int (bz fu), .int (bz fa)])), (qk, .inl (cB, 3000, .inl K)), (qp, .inl (cI, 18000, .inl P)), (b, .inr (6, [.ref qk2, .ref qp2, .int (nI n'_6), .int (bz fu'_9), .int (bz fa'_10)])), (qk2, .inl (cB, 3000, .inl K'_7)), (qp2, .inl (cI, 18000, .inl P'_8))] H := hP
    have hD : va_D A [(hm, .inr (1, [.ref a, .ref b, .ref qa, .ref qu, .ref qb, .ref qh, .ref qm])), (a, .inr (6, [.ref qk, .ref qp, .int (nI n), .int (bz fu), .int (bz fa)])), (qk, .inl (cB, 3000, .inl K)), (qp, .inl (cI, 18000, .inl P)), (b, .inr (6, [.ref qk2, .ref qp2, .int (nI n'_6), .int (bz fu'_9), .int (bz fa'_10)])), (qk2, .inl (cB, 3000, .inl K'_7)), (qp2, .inl (cI, 18000, .inl P'_8))] := hD
    refine W.eq (g2 := F0 m 66 ls []) rfl ?_
    obtain ⟨RES, hRES⟩ : ∃ r, r = tnL (gp (lst n K P)) f (e_ - 1 - f) (lst n'_6 K'_7 P'_8, fu'_9, fa'_10) := ⟨_, rfl⟩
    have hR1 := hRES
    rw [hb1.2] at hR1
    refine lv_iload hx hb d_M_turn_66 (lv_at hl 0 rfl) ?_
    refine lv_istore (lv' := [(5, .int (nI (e_ - 1))), (4, .int (nI (e_ - 1))), (3, .int 0), (0, .ref hm), (1, .int (nI f)), (2, .int (nI e_))]) hx hb d_M_turn_68 hl (by decide) rfl (fun ls hl => ?_)
    have L_70 : ∀ (n_ : Nat) (i : Nat) (n2 : Nat) (K2 : Nat → Int32) (P2 : Nat → Int32) (fu2 : Bool) (fa2 : Bool), i - f < n_ → (f ≤ i) → (i ≤ e_ - 1) → (n2 ≤ 3000) → (tnL (gp (lst n K P)) f (i - f) (lst n2 K2 P2, fu2, fa2) = RES) → ∀ (H : Heap) (locs : List Loc) (ls : Array Slot), va_P D cl [(hm, .inr (1, [.ref a, .ref b, .ref qa, .ref qu, .ref qb, .ref qh, .ref qm])), (a, .inr (6, [.ref qk, .ref qp, .int (nI n), .int (bz fu), .int (bz fa)])), (qk, .inl (cB, 3000, .inl K)), (qp, .inl (cI, 18000, .inl P)), (b, .inr (6, [.ref qk2, .ref qp2, .int (nI n2), .int (bz fu2), .int (bz fa2)])), (qk2, .inl (cB, 3000, .inl K2)), (qp2, .inl (cI, 18000, .inl P2))] H → va_D A [(hm, .inr (1, [.ref a, .ref b, .ref qa, .ref qu, .ref qb, .ref qh, .ref qm])), (a, .inr (6, [.ref qk, .ref qp, .int (nI n), .int (bz fu), .int (bz fa)])), (qk, .inl (cB, 3000, .inl K)), (qp, .inl (cI, 18000, .inl P)), (b, .inr (6, [.ref qk2, .ref qp2, .int (nI n2), .int (bz fu2), .int (bz fa2)])), (qk2, .inl (cB, 3000, .inl K2)), (qp2, .inl (cI, 18000, .inl P2))] → va_S A s.heap H locs → lv_has ls 7 [(0, .ref hm), (1, .int (nI f)), (2, .int (nI e_)), (3, .int 0), (4, .int (nI (e_ - 1))), (5, .int (nI i))] → W p l e R s m args below meth c H locs (0) (0) Q (F0 m 70 ls []) := by
      intro n_
      induction n_ with
      | zero => intro i n2 K2 P2 fu2 fa2 hm_; exact absurd hm_ (Nat.not_lt_zero _)
      | succ n_ ih_70 =>
        intro i n2 K2 P2 fu2 fa2 hm_ hfi hil hn2 hT H locs ls hP hD hS hl
        refine lv_iload hx hb d_M_turn_70 (lv_at hl 5 rfl) ?_
        refine lv_iload_n hx hb d_M_turn_72 rfl (lv_at hl 1 rfl) ?_
        refine bn_le (a1 := i) (b1 := f) (tgt := 226) hx hb (by omega) (by omega) d_M_turn_73 (by decide) (fun c_11 => ?_) (fun c_11 => ?_)
        · skip
          have hT9 : (lst n2 K2 P2, fu2, fa2) = RES := by rw [← hT, show i - f = 0 by omega]; rfl
          refine lv_iload_n hx hb d_M_turn_226 rfl (lv_at hl 3 rfl) ?_
          refine bz_eq (a1 := 0) (tgt := 260) hx hb (by omega) d_M_turn_227 (by decide) (fun c_12 => ?_) (fun c_12 => ?_)
          rotate_left
          · exact absurd c_12 (by decide)
          exact ct_retv hQ hx hb hr hlocks hP hD hS (n2, K2, P2, fu2, fa2) [(hm, .inr (1, [.ref a, .ref b, .ref qa, .ref qu, .ref qb, .ref qh, .ref qm])), (a, .inr (6, [.ref qk, .ref qp, .int (nI n), .int (bz fu), .int (bz fa)])), (qk, .inl (cB, 3000, .inl K)), (qp, .inl (cI, 18000, .inl P)), (b, .inr (6, [.ref qk2, .ref qp2, .int (nI n2), .int (bz fu2), .int (bz fa2)])), (qk2, .inl (cB, 3000, .inl K2)), (qp2, .inl (cI, 18000, .inl P2))] [0, 1, 2, 3, 4, 5, 6] (rfl) (⟨hn2, by rw [turnD_n hen (by omega) hc, ← hR1, hT9]⟩) (rfl) rfl rfl (by omega) (by omega) d_M_turn_260
        · skip
          refine lv_aload_n hx hb d_M_turn_76 rfl (lv_at hl 0 rfl) ?_
          refine va_get (D := D) (ci := 1) (v := .ref a) (C := R_M) (T := T_M) (N := 7) hx hb hts (ui_M _) hown hK hP 0 rfl rfl 0 (by decide) (hts _ (gwc gw_509)) (fun _ h9 => h9) rfl d_M_turn_77 ?_
          refine va_getN (D := D) (ci := 6) (v := .ref qk) (C := R_MPath) (T := T_MPath) (N := 5) hx hb hts (ui_MPath _) hown hK hP 1 rfl rfl 0 (by decide) ((amb_nw_9 hM).use rfl) (fun _ h9 => h9) rfl d_M_turn_80 ?_
          refine lv_iload hx hb d_M_turn_83 (lv_at hl 5 rfl) ?_
          refine ld_b hx hb hK hP 2 1 rfl rfl i (by omega) (by omega) d_M_turn_85 ?_
          refine lv_iconst (v := 2) hx hb d_M_turn_86 (by decide) ?_
          refine lv_icmp_ne (tgt := 94) hx hb d_M_turn_87 (by decide) (fun c_13 => ?_) (fun c_13 => ?_)
          · skip
            refine lv_iconst (v := 0) hx hb d_M_turn_94 (by decide) ?_
            refine lv_istore (lv' := [(6, .int 0), (0, .ref hm), (1, .int (nI f)), (2, .int (nI e_)), (3, .int 0), (4, .int (nI (e_ - 1))), (5, .int (nI i))]) hx hb d_M_turn_95 hl (by decide) rfl (fun ls hl => ?_)
            refine lv_aload_n hx hb d_M_turn_97 rfl (lv_at hl 1 rfl) ?_
            refine va_get (D := D) (ci := 1) (v := .ref b) (C := R_M) (T := T_M) (N := 7) hx hb hts (ui_M _) hown hK hP 0 rfl rfl 1 (by decide) (hts _ (gwc gw_510)) (fun _ h9 => h9) rfl d_M_turn_98 ?_
            refine lv_aload_n hx hb d_M_turn_101 rfl (lv_at hl 1 rfl) ?_
            refine va_get (D := D) (ci := 1) (v := .ref a) (C := R_M) (T := T_M) (N := 7) hx hb hts (ui_M _) hown hK hP 0 rfl rfl 0 (by decide) (hts _ (gwc gw_509)) (fun _ h9 => h9) rfl d_M_turn_102 ?_
            refine va_getN (D := D) (ci := 6) (v := .ref qk) (C := R_MPath) (T := T_MPath) (N := 5) hx hb hts (ui_MPath _) hown hK hP 1 rfl rfl 0 (by decide) ((amb_nw_9 hM).use rfl) (fun _ h9 => h9) rfl d_M_turn_105 ?_
            refine lv_iload hx hb d_M_turn_108 (lv_at hl 6 rfl) ?_
            refine ld_b hx hb hK hP 2 1 rfl rfl i (by omega) (by omega) d_M_turn_110 ?_
            refine lv_aload_n hx hb d_M_turn_111 rfl (lv_at hl 1 rfl) ?_
            refine va_get (D := D) (ci := 1) (v := .ref a) (C := R_M) (T := T_M) (N := 7) hx hb hts (ui_M _) hown hK hP 0 rfl rfl 0 (by decide) (hts _ (gwc gw_509)) (fun _ h9 => h9) rfl d_M_turn_112 ?_
            refine lv_iload hx hb d_M_turn_115 (lv_at hl 6 rfl) ?_
            refine lv_iconst (v := 1) hx hb d_M_turn_117 (by decide) ?_
            refine lv_isub hx hb d_M_turn_118 ?_
            refine tp_i (nI (i - 1)) (pk_sub (a := i) (b := 1) (by omega)) ?_
            refine lv_iconst (v := 0) hx hb d_M_turn_119 (by decide) ?_
            refine ct_callV (ci := 6) (q0 := 1) (As := [.int (nI (i - 1)), .int 0]) (rest := [.int (K i), .ref b]) (wr := [(hm, .inr (1, [.ref a, .ref b, .ref qa, .ref qu, .ref qb, .ref qh, .ref qm])), (b, .inr (6, [.ref qk2, .ref qp2, .int (nI n2), .int (bz fu2), .int (bz fa2)])), (qk2, .inl (cB, 3000, .inl K2)), (qp2, .inl (cI, 18000, .inl P2))]) (n := 2) (c_MPath_get l D cI cB cJ qQ  a qk qp n K P fu fa (i - 1) 0 (by omega) (by omega)) hx hb hml hown hts (amb_ok qQ) hK hP hD hS hA hM (gi_V gw_540 gw_541 gw_542 gw_34 gw_543) rfl (by decide +kernel) ⟨by omega, by omega⟩ [1, 2, 3] [0, 4, 5, 6] rfl rfl rfl rfl (by decide) rfl rfl rfl hl.1 rfl (Nat.le_of_ble_eq_true rfl) d_M_turn_120 ⟨by omega, by omega⟩ (fun u_14 H locs hok hP hD hS => ?_)
            have hP : va_P D cl [(hm, .inr (1, [.ref a, .ref b, .ref qa, .ref qu, .ref qb, .ref qh, .ref qm])), (b, .inr (6, [.ref qk2, .ref qp2, .int (nI n2), .int (bz fu2), .int (bz fa2)])), (qk2, .inl (cB, 3000, .inl K2)), (qp2, .inl (cI, 18000, .inl P2)), (a, .inr (6, [.ref qk, .ref qp, .int (nI n), .int (bz fu), .int (bz fa)])), (qk, .inl (cB, 3000, .inl K)), (qp, .inl (cI, 18000, .inl P))] H := hP
            have hD : va_D A [(hm, .inr (1, [.ref a, .ref b, .ref qa, .ref qu, .ref qb, .ref qh, .ref qm])), (b, .inr (6, [.ref qk2, .ref qp2, .int (nI n2), .int (bz fu2), .int (bz fa2)])), (qk2, .inl (cB, 3000, .inl K2)), (qp2, .inl (cI, 18000, .inl P2)), (a, .inr (6, [.ref qk, .ref qp, .int (nI n), .int (bz fu), .int (bz fa)])), (qk, .inl (cB, 3000, .inl K)), (qp, .inl (cI, 18000, .inl P))] := hD
            refine W.eq (g2 := F0 m 123 ls [.int (P (6 * (i - 1) + 0)), .int (K i), .ref b]) rfl ?_
            refine lv_i2l (v := (P (6 * (i - 1) + 0)).toInt64) hx hb d_M_turn_123 rfl ?_
            refine lv_aload_n hx hb d_M_turn_124 rfl (lv_at hl 1 rfl) ?_
            refine va_get (D := D) (ci := 1) (v := .ref a) (C := R_M) (T := T_M) (N := 7) hx hb hts (ui_M _) hown hK hP 0 rfl rfl 0 (by decide) (hts _ (gwc gw_509)) (fun _ h9 => h9) rfl d_M_turn_125 ?_
            refine lv_iload hx hb d_M_turn_128 (lv_at hl 6 rfl) ?_
            refine lv_iconst (v := 1) hx hb d_M_turn_130 (by decide) ?_
            refine lv_isub hx hb d_M_turn_131 ?_
            refine tp_i (nI (i - 1)) (pk_sub (a := i) (b := 1) (by omega)) ?_
            refine lv_iconst (v := 1) hx hb d_M_turn_132 (by decide) ?_
            refine ct_callV (ci := 6) (q0 := 4) (As := [.int (nI (i - 1)), .int 1]) (rest := [.long ((P (6 * (i - 1) + 0)).toInt64), .int (K i), .ref b]) (wr := [(hm, .inr (1, [.ref a, .ref b, .ref qa, .ref qu, .ref qb, .ref qh, .ref qm])), (b, .inr (6, [.ref qk2, .ref qp2, .int (nI n2), .int (bz fu2), .int (bz fa2)])), (qk2, .inl (cB, 3000, .inl K2)), (qp2, .inl (cI, 18000, .inl P2))]) (n := 2) (c_MPath_get l D cI cB cJ qQ  a qk qp n K P fu fa (i - 1) 1 (by omega) (by omega)) hx hb hml hown hts (amb_ok qQ) hK hP hD hS hA hM (gi_V gw_540 gw_541 gw_542 gw_34 gw_543) rfl (by decide +kernel) ⟨by omega, by omega⟩ [4, 5, 6] [0, 1, 2, 3] rfl rfl rfl rfl (by decide) rfl rfl rfl hl.1 rfl (Nat.le_of_ble_eq_true rfl) d_M_turn_133 ⟨by omega, by omega⟩ (fun u_15 H locs hok hP hD hS => ?_)
            have hP : va_P D cl [(hm, .inr (1, [.ref a, .ref b, .ref qa, .ref qu, .ref qb, .ref qh, .ref qm])), (b, .inr (6, [.ref qk2, .ref qp2, .int (nI n2), .int (bz fu2), .int (bz fa2)])), (qk2, .inl (cB, 3000, .inl K2)), (qp2, .inl (cI, 18000, .inl P2)), (a, .inr (6, [.ref qk, .ref qp, .int (nI n), .int (bz fu), .int (bz fa)])), (qk, .inl (cB, 3000, .inl K)), (qp, .inl (cI, 18000, .inl P))] H := hP
            have hD : va_D A [(hm, .inr (1, [.ref a, .ref b, .ref qa, .ref qu, .ref qb, .ref qh, .ref qm])), (b, .inr (6, [.ref qk2, .ref qp2, .int (nI n2), .int (bz fu2), .int (bz fa2)])), (qk2, .inl (cB, 3000, .inl K2)), (qp2, .inl (cI, 18000, .inl P2)), (a, .inr (6, [.ref qk, .ref qp, .int (nI n), .int (bz fu), .int (bz fa)])), (qk, .inl (cB, 3000, .inl K)), (qp, .inl (cI, 18000, .inl P))] := hD
            refine W.eq (g2 := F0 m 136 ls [.int (P (6 * (i - 1) + 1)), .long ((P (6 * (i - 1) + 0)).toInt64), .int (K i), .ref b]) rfl ?_
            refine lv_i2l (v := (P (6 * (i - 1) + 1)).toInt64) hx hb d_M_turn_136 rfl ?_
            refine lv_iload hx hb d_M_turn_137 (lv_at hl 0 rfl) ?_
            refine bz_eq (a1 := 0) (tgt := 156) hx hb (by omega) d_M_turn_139 (by decide) (fun c_16 => ?_) (fun c_16 => ?_)
            rotate_left
            · exact absurd c_16 (by decide)
            refine lv_lconst (v := 0) hx hb d_M_turn_156 (by decide) ?_
            refine lv_iload hx hb d_M_turn_157 (lv_at hl 0 rfl) ?_
            refine bz_eq (a1 := 0) (tgt := 176) hx hb (by omega) d_M_turn_159 (by decide) (fun c_17 => ?_) (fun c_17 => ?_)
            rotate_left
            · exact absurd c_17 (by decide)
            refine lv_lconst (v := 0) hx hb d_M_turn_176 (by decide) ?_
            refine lv_iload hx hb d_M_turn_177 (lv_at hl 0 rfl) ?_
            refine bz_eq (a1 := 0) (tgt := 196) hx hb (by omega) d_M_turn_179 (by decide) (fun c_18 => ?_) (fun c_18 => ?_)
            rotate_left
            · exact absurd c_18 (by decide)
            refine lv_lconst (v := 0) hx hb d_M_turn_196 (by decide) ?_
            refine lv_iload hx hb d_M_turn_197 (lv_at hl 0 rfl) ?_
            refine bz_eq (a1 := 0) (tgt := 216) hx hb (by omega) d_M_turn_199 (by decide) (fun c_19 => ?_) (fun c_19 => ?_)
            rotate_left
            · exact absurd c_19 (by decide)
            refine lv_lconst (v := 0) hx hb d_M_turn_216 (by decide) ?_
            refine ct_callV (ci := 6) (q0 := 1) (As := [.int (K i), .long ((P (6 * (i - 1) + 0)).toInt64), .long ((P (6 * (i - 1) + 1)).toInt64), .long 0, .long 0, .long 0, .long 0]) (rest := []) (wr := [(hm, .inr (1, [.ref a, .ref b, .ref qa, .ref qu, .ref qb, .ref qh, .ref qm])), (a, .inr (6, [.ref qk, .ref qp, .int (nI n), .int (bz fu), .int (bz fa)])), (qk, .inl (cB, 3000, .inl K)), (qp, .inl (cI, 18000, .inl P))]) (n := 7) (c_MPath_add l D cI cB cJ qQ  b qk2 qp2 n2 K2 P2 fu2 fa2 (K i) ((P (6 * (i - 1) + 0)).toInt64) ((P (6 * (i - 1) + 1)).toInt64) 0 0 0 0 (hn2) (hk i (by omega))) hx hb hml hown hts (amb_ok qQ) hK hP hD hS hA hM (gi_V gw_592 gw_565 gw_566 gw_34 gw_567) rfl (by decide +kernel) ⟨by omega, by omega⟩ [1, 2, 3] [0, 4, 5, 6] rfl rfl rfl rfl (by decide) rfl rfl rfl hl.1 rfl (Nat.le_of_ble_eq_true rfl) d_M_turn_217 ⟨by omega, by omega⟩ (fun u_20 H locs hok hP hD hS => ?_)
            obtain ⟨n'_21, K'_22, P'_23, fu'_24, fa'_25⟩ := u_20
            have hbg : n'_21 ≤ 3000 ∧ (lst n'_21 K'_22 P'_23, fu'_24, fa'_25) = addD (lst n2 K2 P2, fu2, fa2) (K i) ((P (6 * (i - 1) + 0)).toInt64) ((P (6 * (i - 1) + 1)).toInt64) 0 0 0 0 := hok
            have hP : va_P D cl [(hm, .inr (1, [.ref a, .ref b, .ref qa, .ref qu, .ref qb, .ref qh, .ref qm])), (a, .inr (6, [.ref qk, .ref qp, .int (nI n), .int (bz fu), .int (bz fa)])), (qk, .inl (cB, 3000, .inl K)), (qp, .inl (cI, 18000, .inl P)), (b, .inr (6, [.ref qk2, .ref qp2, .int (nI n'_21), .int (bz fu'_24), .int (bz fa'_25)])), (qk2, .inl (cB, 3000, .inl K'_22)), (qp2, .inl (cI, 18000, .inl P'_23))] H := hP
            have hD : va_D A [(hm, .inr (1, [.ref a, .ref b, .ref qa, .ref qu, .ref qb, .ref qh, .ref qm])), (a, .inr (6, [.ref qk, .ref qp, .int (nI n), .int (bz fu), .int (bz fa)])), (qk, .inl (cB, 3000, .inl K)), (qp, .inl (cI, 18000, .inl P)), (b, .inr (6, [.ref qk2, .ref qp2, .int (nI n'_21), .int (bz fu'_24), .int (bz fa'_25)])), (qk2, .inl (cB, 3000, .inl K'_22)), (qp2, .inl (cI, 18000, .inl P'_23))] := hD
            refine W.eq (g2 := F0 m 220 ls []) rfl ?_
            refine lv_iinc (v := nI (i - 1)) (lv' := [(5, .int (nI (i - 1))), (6, .int 0), (0, .ref hm), (1, .int (nI f)), (2, .int (nI e_)), (3, .int 0), (4, .int (nI (e_ - 1)))]) hx hb d_M_turn_220 hl (k := 6) rfl (sb_m1 (show 0 < i by omega)) (by decide) rfl (fun ls hl => ?_)
            refine lv_goto (tgt := 70) hx hb d_M_turn_223 (by decide) ?_
            exact ih_70 (i - 1) n'_21 K'_22 P'_23 fu'_24 fa'_25 (by omega) (by omega) (by omega) (hbg.1) (by rw [tnL_s c_11, tnS_n (by omega) c_13, ← hbg.2] at hT; exact hT) _ _ _ hP hD hS (lv_sub hl [2, 3, 4, 5, 6, 0] rfl)
          · skip
            refine lv_iconst (v := 1) hx hb d_M_turn_90 (by decide) ?_
            refine lv_goto (tgt := 95) hx hb d_M_turn_91 (by decide) ?_
            refine lv_istore (lv' := [(6, .int 1), (0, .ref hm), (1, .int (nI f)), (2, .int (nI e_)), (3, .int 0), (4, .int (nI (e_ - 1))), (5, .int (nI i))]) hx hb d_M_turn_95 hl (by decide) rfl (fun ls hl => ?_)
            refine lv_aload_n hx hb d_M_turn_97 rfl (lv_at hl 1 rfl) ?_
            refine va_get (D := D) (ci := 1) (v := .ref b) (C := R_M) (T := T_M) (N := 7) hx hb hts (ui_M _) hown hK hP 0 rfl rfl 1 (by decide) (hts _ (gwc gw_510)) (fun _ h9 => h9) rfl d_M_turn_98 ?_
            refine lv_aload_n hx hb d_M_turn_101 rfl (lv_at hl 1 rfl) ?_
            refine va_get (D := D) (ci := 1) (v := .ref a) (C := R_M) (T := T_M) (N := 7) hx hb hts (ui_M _) hown hK hP 0 rfl rfl 0 (by decide) (hts _ (gwc gw_509)) (fun _ h9 => h9) rfl d_M_turn_102 ?_
            refine va_getN (D := D) (ci := 6) (v := .ref qk) (C := R_MPath) (T := T_MPath) (N := 5) hx hb hts (ui_MPath _) hown hK hP 1 rfl rfl 0 (by decide) ((amb_nw_9 hM).use rfl) (fun _ h9 => h9) rfl d_M_turn_105 ?_
            refine lv_iload hx hb d_M_turn_108 (lv_at hl 6 rfl) ?_
            refine ld_b hx hb hK hP 2 1 rfl rfl i (by omega) (by omega) d_M_turn_110 ?_
            refine lv_aload_n hx hb d_M_turn_111 rfl (lv_at hl 1 rfl) ?_
            refine va_get (D := D) (ci := 1) (v := .ref a) (C := R_M) (T := T_M) (N := 7) hx hb hts (ui_M _) hown hK hP 0 rfl rfl 0 (by decide) (hts _ (gwc gw_509)) (fun _ h9 => h9) rfl d_M_turn_112 ?_
            refine lv_iload hx hb d_M_turn_115 (lv_at hl 6 rfl) ?_
            refine lv_iconst (v := 1) hx hb d_M_turn_117 (by decide) ?_
            refine lv_isub hx hb d_M_turn_118 ?_
            refine tp_i (nI (i - 1)) (pk_sub (a := i) (b := 1) (by omega)) ?_
            refine lv_iconst (v := 0) hx hb d_M_turn_119 (by decide) ?_
            refine ct_callV (ci := 6) (q0 := 1) (As := [.int (nI (i - 1)), .int 0]) (rest := [.int (K i), .ref b]) (wr := [(hm, .inr (1, [.ref a, .ref b, .ref qa, .ref qu, .ref qb, .ref qh, .ref qm])), (b, .inr (6, [.ref qk2, .ref qp2, .int (nI n2), .int (bz fu2), .int (bz fa2)])), (qk2, .inl (cB, 3000, .inl K2)), (qp2, .inl (cI, 18000, .inl P2))]) (n := 2) (c_MPath_get l D cI cB cJ qQ  a qk qp n K P fu fa (i - 1) 0 (by omega) (by omega)) hx hb hml hown hts (amb_ok qQ) hK hP hD hS hA hM (gi_V gw_540 gw_541 gw_542 gw_34 gw_543) rfl (by decide +kernel) ⟨by omega, by omega⟩ [1, 2, 3] [0, 4, 5, 6] rfl rfl rfl rfl (by decide) rfl rfl rfl hl.1 rfl (Nat.le_of_ble_eq_true rfl) d_M_turn_120 ⟨by omega, by omega⟩ (fun u_26 H locs hok hP hD hS => ?_)
            have hP : va_P D cl [(hm, .inr (1, [.ref a, .ref b, .ref qa, .ref qu, .ref qb, .ref qh, .ref qm])), (b, .inr (6, [.ref qk2, .ref qp2, .int (nI n2), .int (bz fu2), .int (bz fa2)])), (qk2, .inl (cB, 3000, .inl K2)), (qp2, .inl (cI, 18000, .inl P2)), (a, .inr (6, [.ref qk, .ref qp, .int (nI n), .int (bz fu), .int (bz fa)])), (qk, .inl (cB, 3000, .inl K)), (qp, .inl (cI, 18000, .inl P))] H := hP
            have hD : va_D A [(hm, .inr (1, [.ref a, .ref b, .ref qa, .ref qu, .ref qb, .ref qh, .ref qm])), (b, .inr (6, [.ref qk2, .ref qp2, .int (nI n2), .int (bz fu2), .int (bz fa2)])), (qk2, .inl (cB, 3000, .inl K2)), (qp2, .inl (cI, 18000, .inl P2)), (a, .inr (6, [.ref qk, .ref qp, .int (nI n), .int (bz fu), .int (bz fa)])), (qk, .inl (cB, 3000, .inl K)), (qp, .inl (cI, 18000, .inl P))] := hD
            refine W.eq (g2 := F0 m 123 ls [.int (P (6 * (i - 1) + 0)), .int (K i), .ref b]) rfl ?_
            refine lv_i2l (v := (P (6 * (i - 1) + 0)).toInt64) hx hb d_M_turn_123 rfl ?_
            refine lv_aload_n hx hb d_M_turn_124 rfl (lv_at hl 1 rfl) ?_
            refine va_get (D := D) (ci := 1) (v := .ref a) (C := R_M) (T := T_M) (N := 7) hx hb hts (ui_M _) hown hK hP 0 rfl rfl 0 (by decide) (hts _ (gwc gw_509)) (fun _ h9 => h9) rfl d_M_turn_125 ?_
            refine lv_iload hx hb d_M_turn_128 (lv_at hl 6 rfl) ?_
            refine lv_iconst (v := 1) hx hb d_M_turn_130 (by decide) ?_
            refine lv_isub hx hb d_M_turn_131 ?_
            refine tp_i (nI (i - 1)) (pk_sub (a := i) (b := 1) (by omega)) ?_
            refine lv_iconst (v := 1) hx hb d_M_turn_132 (by decide) ?_
            refine ct_callV (ci := 6) (q0 := 4) (As := [.int (nI (i - 1)), .int 1]) (rest := [.long ((P (6 * (i - 1) + 0)).toInt64), .int (K i), .ref b]) (wr := [(hm, .inr (1, [.ref a, .ref b, .ref qa, .ref qu, .ref qb, .ref qh, .ref qm])), (b, .inr (6, [.ref qk2, .ref qp2, .int (nI n2), .int (bz fu2), .int (bz fa2)])), (qk2, .inl (cB, 3000, .inl K2)), (qp2, .inl (cI, 18000, .inl P2))]) (n := 2) (c_MPath_get l D cI cB cJ qQ  a qk qp n K P fu fa (i - 1) 1 (by omega) (by omega)) hx hb hml hown hts (amb_ok qQ) hK hP hD hS hA hM (gi_V gw_540 gw_541 gw_542 gw_34 gw_543) rfl (by decide +kernel) ⟨by omega, by omega⟩ [4, 5, 6] [0, 1, 2, 3] rfl rfl rfl rfl (by decide) rfl rfl rfl hl.1 rfl (Nat.le_of_ble_eq_true rfl) d_M_turn_133 ⟨by omega, by omega⟩ (fun u_27 H locs hok hP hD hS => ?_)
            have hP : va_P D cl [(hm, .inr (1, [.ref a, .ref b, .ref qa, .ref qu, .ref qb, .ref qh, .ref qm])), (b, .inr (6, [.ref qk2, .ref qp2, .int (nI n2), .int (bz fu2), .int (bz fa2)])), (qk2, .inl (cB, 3000, .inl K2)), (qp2, .inl (cI, 18000, .inl P2)), (a, .inr (6, [.ref qk, .ref qp, .int (nI n), .int (bz fu), .int (bz fa)])), (qk, .inl (cB, 3000, .inl K)), (qp, .inl (cI, 18000, .inl P))] H := hP
            have hD : va_D A [(hm, .inr (1, [.ref a, .ref b, .ref qa, .ref qu, .ref qb, .ref qh, .ref qm])), (b, .inr (6, [.ref qk2, .ref qp2, .int (nI n2), .int (bz fu2), .int (bz fa2)])), (qk2, .inl (cB, 3000, .inl K2)), (qp2, .inl (cI, 18000, .inl P2)), (a, .inr (6, [.ref qk, .ref qp, .int (nI n), .int (bz fu), .int (bz fa)])), (qk, .inl (cB, 3000, .inl K)), (qp, .inl (cI, 18000, .inl P))] := hD
            refine W.eq (g2 := F0 m 136 ls [.int (P (6 * (i - 1) + 1)), .long ((P (6 * (i - 1) + 0)).toInt64), .int (K i), .ref b]) rfl ?_
            refine lv_i2l (v := (P (6 * (i - 1) + 1)).toInt64) hx hb d_M_turn_136 rfl ?_
            refine lv_iload hx hb d_M_turn_137 (lv_at hl 0 rfl) ?_
            refine bz_eq (a1 := 1) (tgt := 156) hx hb (by omega) d_M_turn_139 (by decide) (fun c_28 => ?_) (fun c_28 => ?_)
            · exact absurd c_28 (by decide)
            refine lv_aload_n hx hb d_M_turn_142 rfl (lv_at hl 1 rfl) ?_
            refine va_get (D := D) (ci := 1) (v := .ref a) (C := R_M) (T := T_M) (N := 7) hx hb hts (ui_M _) hown hK hP 0 rfl rfl 0 (by decide) (hts _ (gwc gw_509)) (fun _ h9 => h9) rfl d_M_turn_143 ?_
            refine lv_iload hx hb d_M_turn_146 (lv_at hl 6 rfl) ?_
            refine lv_iconst (v := 4) hx hb d_M_turn_148 (by decide) ?_
            refine ct_callV (ci := 6) (q0 := 4) (As := [.int (nI i), .int 4]) (rest := [.long ((P (6 * (i - 1) + 1)).toInt64), .long ((P (6 * (i - 1) + 0)).toInt64), .int (K i), .ref b]) (wr := [(hm, .inr (1, [.ref a, .ref b, .ref qa, .ref qu, .ref qb, .ref qh, .ref qm])), (b, .inr (6, [.ref qk2, .ref qp2, .int (nI n2), .int (bz fu2), .int (bz fa2)])), (qk2, .inl (cB, 3000, .inl K2)), (qp2, .inl (cI, 18000, .inl P2))]) (n := 2) (c_MPath_get l D cI cB cJ qQ  a qk qp n K P fu fa i 4 (by omega) (by omega)) hx hb hml hown hts (amb_ok qQ) hK hP hD hS hA hM (gi_V gw_540 gw_541 gw_542 gw_34 gw_543) rfl (by decide +kernel) ⟨by omega, by omega⟩ [4, 5, 6] [0, 1, 2, 3] rfl rfl rfl rfl (by decide) rfl rfl rfl hl.1 rfl (Nat.le_of_ble_eq_true rfl) d_M_turn_149 ⟨by omega, by omega⟩ (fun u_29 H locs hok hP hD hS => ?_)
            have hP : va_P D cl [(hm, .inr (1, [.ref a, .ref b, .ref qa, .ref qu, .ref qb, .ref qh, .ref qm])), (b, .inr (6, [.ref qk2, .ref qp2, .int (nI n2), .int (bz fu2), .int (bz fa2)])), (qk2, .inl (cB, 3000, .inl K2)), (qp2, .inl (cI, 18000, .inl P2)), (a, .inr (6, [.ref qk, .ref qp, .int (nI n), .int (bz fu), .int (bz fa)])), (qk, .inl (cB, 3000, .inl K)), (qp, .inl (cI, 18000, .inl P))] H := hP
            have hD : va_D A [(hm, .inr (1, [.ref a, .ref b, .ref qa, .ref qu, .ref qb, .ref qh, .ref qm])), (b, .inr (6, [.ref qk2, .ref qp2, .int (nI n2), .int (bz fu2), .int (bz fa2)])), (qk2, .inl (cB, 3000, .inl K2)), (qp2, .inl (cI, 18000, .inl P2)), (a, .inr (6, [.ref qk, .ref qp, .int (nI n), .int (bz fu), .int (bz fa)])), (qk, .inl (cB, 3000, .inl K)), (qp, .inl (cI, 18000, .inl P))] := hD
            refine W.eq (g2 := F0 m 152 ls [.int (P (6 * i + 4)), .long ((P (6 * (i - 1) + 1)).toInt64), .long ((P (6 * (i - 1) + 0)).toInt64), .int (K i), .ref b]) rfl ?_
            refine lv_i2l (v := (P (6 * i + 4)).toInt64) hx hb d_M_turn_152 rfl ?_
            refine lv_goto (tgt := 157) hx hb d_M_turn_153 (by decide) ?_
            refine lv_iload hx hb d_M_turn_157 (lv_at hl 0 rfl) ?_
            refine bz_eq (a1 := 1) (tgt := 176) hx hb (by omega) d_M_turn_159 (by decide) (fun c_30 => ?_) (fun c_30 => ?_)
            · exact absurd c_30 (by decide)
            refine lv_aload_n hx hb d_M_turn_162 rfl (lv_at hl 1 rfl) ?_
            refine va_get (D := D) (ci := 1) (v := .ref a) (C := R_M) (T := T_M) (N := 7) hx hb hts (ui_M _) hown hK hP 0 rfl rfl 0 (by decide) (hts _ (gwc gw_509)) (fun _ h9 => h9) rfl d_M_turn_163 ?_
            refine lv_iload hx hb d_M_turn_166 (lv_at hl 6 rfl) ?_
            refine lv_iconst (v := 5) hx hb d_M_turn_168 (by decide) ?_
            refine ct_callV (ci := 6) (q0 := 4) (As := [.int (nI i), .int 5]) (rest := [.long ((P (6 * i + 4)).toInt64), .long ((P (6 * (i - 1) + 1)).toInt64), .long ((P (6 * (i - 1) + 0)).toInt64), .int (K i), .ref b]) (wr := [(hm, .inr (1, [.ref a, .ref b, .ref qa, .ref qu, .ref qb, .ref qh, .ref qm])), (b, .inr (6, [.ref qk2, .ref qp2, .int (nI n2), .int (bz fu2), .int (bz fa2)])), (qk2, .inl (cB, 3000, .inl K2)), (qp2, .inl (cI, 18000, .inl P2))]) (n := 2) (c_MPath_get l D cI cB cJ qQ  a qk qp n K P fu fa i 5 (by omega) (by omega)) hx hb hml hown hts (amb_ok qQ) hK hP hD hS hA hM (gi_V gw_540 gw_541 gw_542 gw_34 gw_543) rfl (by decide +kernel) ⟨by omega, by omega⟩ [4, 5, 6] [0, 1, 2, 3] rfl rfl rfl rfl (by decide) rfl rfl rfl hl.1 rfl (Nat.le_of_ble_eq_true rfl) d_M_turn_169 ⟨by omega, by omega⟩ (fun u_31 H locs hok hP hD hS => ?_)
            have hP : va_P D cl [(hm, .inr (1, [.ref a, .ref b, .ref qa, .ref qu, .ref qb, .ref qh, .ref qm])), (b, .inr (6, [.ref qk2, .ref qp2, .int (nI n2), .int (bz fu2), .int (bz fa2)])), (qk2, .inl (cB, 3000, .inl K2)), (qp2, .inl (cI, 18000, .inl P2)), (a, .inr (6, [.ref qk, .ref qp, .int (nI n), .int (bz fu), .int (bz fa)])), (qk, .inl (cB, 3000, .inl K)), (qp, .inl (cI, 18000, .inl P))] H := hP
            have hD : va_D A [(hm, .inr (1, [.ref a, .ref b, .ref qa, .ref qu, .ref qb, .ref qh, .ref qm])), (b, .inr (6, [.ref qk2, .ref qp2, .int (nI n2), .int (bz fu2), .int (bz fa2)])), (qk2, .inl (cB, 3000, .inl K2)), (qp2, .inl (cI, 18000, .inl P2)), (a, .inr (6, [.ref qk, .ref qp, .int (nI n), .int (bz fu), .int (bz fa)])), (qk, .inl (cB, 3000, .inl K)), (qp, .inl (cI, 18000, .inl P))] := hD
            refine W.eq (g2 := F0 m 172 ls [.int (P (6 * i + 5)), .long ((P (6 * i + 4)).toInt64), .long ((P (6 * (i - 1) + 1)).toInt64), .long ((P (6 * (i - 1) + 0)).toInt64), .int (K i), .ref b]) rfl ?_
            refine lv_i2l (v := (P (6 * i + 5)).toInt64) hx hb d_M_turn_172 rfl ?_
            refine lv_goto (tgt := 177) hx hb d_M_turn_173 (by decide) ?_
            refine lv_iload hx hb d_M_turn_177 (lv_at hl 0 rfl) ?_
            refine bz_eq (a1 := 1) (tgt := 196) hx hb (by omega) d_M_turn_179 (by decide) (fun c_32 => ?_) (fun c_32 => ?_)
            · exact absurd c_32 (by decide)
            refine lv_aload_n hx hb d_M_turn_182 rfl (lv_at hl 1 rfl) ?_
            refine va_get (D := D) (ci := 1) (v := .ref a) (C := R_M) (T := T_M) (N := 7) hx hb hts (ui_M _) hown hK hP 0 rfl rfl 0 (by decide) (hts _ (gwc gw_509)) (fun _ h9 => h9) rfl d_M_turn_183 ?_
            refine lv_iload hx hb d_M_turn_186 (lv_at hl 6 rfl) ?_
            refine lv_iconst (v := 2) hx hb d_M_turn_188 (by decide) ?_
            refine ct_callVW (ci := 6) (q0 := 4) (As := [.int (nI i), .int 2]) (rest := [.long ((P (6 * i + 5)).toInt64), .long ((P (6 * i + 4)).toInt64), .long ((P (6 * (i - 1) + 1)).toInt64), .long ((P (6 * (i - 1) + 0)).toInt64), .int (K i), .ref b]) (wr := [(hm, .inr (1, [.ref a, .ref b, .ref qa, .ref qu, .ref qb, .ref qh, .ref qm])), (b, .inr (6, [.ref qk2, .ref qp2, .int (nI n2), .int (bz fu2), .int (bz fa2)])), (qk2, .inl (cB, 3000, .inl K2)), (qp2, .inl (cI, 18000, .inl P2))]) (n := 2) 10 (by decide) (c_MPath_get l D cI cB cJ qQ  a qk qp n K P fu fa i 2 (by omega) (by omega)) hx hb hml hown hts (amb_ok qQ) hK hP hD hS hA hM (gi_V gw_540 gw_541 gw_542 gw_34 gw_543) rfl (by decide +kernel) ⟨by omega, by omega⟩ [4, 5, 6] [0, 1, 2, 3] rfl rfl rfl rfl (by decide) rfl rfl rfl hl.1 rfl (Nat.le_of_ble_eq_true rfl) d_M_turn_189 ⟨by omega, by omega⟩ (fun u_33 H locs hok hP hD hS => ?_)
            have hP : va_P D cl [(hm, .inr (1, [.ref a, .ref b, .ref qa, .ref qu, .ref qb, .ref qh, .ref qm])), (b, .inr (6, [.ref qk2, .ref qp2, .int (nI n2), .int (bz fu2), .int (bz fa2)])), (qk2, .inl (cB, 3000, .inl K2)), (qp2, .inl (cI, 18000, .inl P2)), (a, .inr (6, [.ref qk, .ref qp, .int (nI n), .int (bz fu), .int (bz fa)])), (qk, .inl (cB, 3000, .inl K)), (qp, .inl (cI, 18000, .inl P))] H := hP
            have hD : va_D A [(hm, .inr (1, [.ref a, .ref b, .ref qa, .ref qu, .ref qb, .ref qh, .ref qm])), (b, .inr (6, [.ref qk2, .ref qp2, .int (nI n2), .int (bz fu2), .int (bz fa2)])), (qk2, .inl (cB, 3000, .inl K2)), (qp2, .inl (cI, 18000, .inl P2)), (a, .inr (6, [.ref qk, .ref qp, .int (nI n), .int (bz fu), .int (bz fa)])), (qk, .inl (cB, 3000, .inl K)), (qp, .inl (cI, 18000, .inl P))] := hD
            refine W.eq (g2 := F0 m 192 ls [.int (P (6 * i + 2)), .long ((P (6 * i + 5)).toInt64), .long ((P (6 * i + 4)).toInt64), .long ((P (6 * (i - 1) + 1)).toInt64), .long ((P (6 * (i - 1) + 0)).toInt64), .int (K i), .ref b]) rfl ?_
            refine lv_i2l (v := (P (6 * i + 2)).toInt64) hx hb d_M_turn_192 rfl ?_
            refine lv_goto (tgt := 197) hx hb d_M_turn_193 (by decide) ?_
            refine lv_iload hx hb d_M_turn_197 (lv_at hl 0 rfl) ?_
            refine bz_eq (a1 := 1) (tgt := 216) hx hb (by omega) d_M_turn_199 (by decide) (fun c_34 => ?_) (fun c_34 => ?_)
            · exact absurd c_34 (by decide)
            refine lv_aload_n hx hb d_M_turn_202 rfl (lv_at hl 1 rfl) ?_
            refine va_get (D := D) (ci := 1) (v := .ref a) (C := R_M) (T := T_M) (N := 7) hx hb hts (ui_M _) hown hK hP 0 rfl rfl 0 (by decide) (hts _ (gwc gw_509)) (fun _ h9 => h9) rfl d_M_turn_203 ?_
            refine lv_iload hx hb d_M_turn_206 (lv_at hl 6 rfl) ?_
            refine lv_iconst (v := 3) hx hb d_M_turn_208 (by decide) ?_
            refine ct_callVW (ci := 6) (q0 := 4) (As := [.int (nI i), .int 3]) (rest := [.long ((P (6 * i + 2)).toInt64), .long ((P (6 * i + 5)).toInt64), .long ((P (6 * i + 4)).toInt64), .long ((P (6 * (i - 1) + 1)).toInt64), .long ((P (6 * (i - 1) + 0)).toInt64), .int (K i), .ref b]) (wr := [(hm, .inr (1, [.ref a, .ref b, .ref qa, .ref qu, .ref qb, .ref qh, .ref qm])), (b, .inr (6, [.ref qk2, .ref qp2, .int (nI n2), .int (bz fu2), .int (bz fa2)])), (qk2, .inl (cB, 3000, .inl K2)), (qp2, .inl (cI, 18000, .inl P2))]) (n := 2) 12 (by decide) (c_MPath_get l D cI cB cJ qQ  a qk qp n K P fu fa i 3 (by omega) (by omega)) hx hb hml hown hts (amb_ok qQ) hK hP hD hS hA hM (gi_V gw_540 gw_541 gw_542 gw_34 gw_543) rfl (by decide +kernel) ⟨by omega, by omega⟩ [4, 5, 6] [0, 1, 2, 3] rfl rfl rfl rfl (by decide) rfl rfl rfl hl.1 rfl (Nat.le_of_ble_eq_true rfl) d_M_turn_209 ⟨by omega, by omega⟩ (fun u_35 H locs hok hP hD hS => ?_)
            have hP : va_P D cl [(hm, .inr (1, [.ref a, .ref b, .ref qa, .ref qu, .ref qb, .ref qh, .ref qm])), (b, .inr (6, [.ref qk2, .ref qp2, .int (nI n2), .int (bz fu2), .int (bz fa2)])), (qk2, .inl (cB, 3000, .inl K2)), (qp2, .inl (cI, 18000, .inl P2)), (a, .inr (6, [.ref qk, .ref qp, .int (nI n), .int (bz fu), .int (bz fa)])), (qk, .inl (cB, 3000, .inl K)), (qp, .inl (cI, 18000, .inl P))] H := hP
            have hD : va_D A [(hm, .inr (1, [.ref a, .ref b, .ref qa, .ref qu, .ref qb, .ref qh, .ref qm])), (b, .inr (6, [.ref qk2, .ref qp2, .int (nI n2), .int (bz fu2), .int (bz fa2)])), (qk2, .inl (cB, 3000, .inl K2)), (qp2, .inl (cI, 18000, .inl P2)), (a, .inr (6, [.ref qk, .ref qp, .int (nI n), .int (bz fu), .int (bz fa)])), (qk, .inl (cB, 3000, .inl K)), (qp, .inl (cI, 18000, .inl P))] := hD
            refine W.eq (g2 := F0 m 212 ls [.int (P (6 * i + 3)), .long ((P (6 * i + 2)).toInt64), .long ((P (6 * i + 5)).toInt64), .long ((P (6 * i + 4)).toInt64), .long ((P (6 * (i - 1) + 1)).toInt64), .long ((P (6 * (i - 1) + 0)).toInt64), .int (K i), .ref b]) rfl ?_
            refine lv_i2l (v := (P (6 * i + 3)).toInt64) hx hb d_M_turn_212 rfl ?_
            refine lv_goto (tgt := 217) hx hb d_M_turn_213 (by decide) ?_
            refine ct_callV (ci := 6) (q0 := 1) (As := [.int (K i), .long ((P (6 * (i - 1) + 0)).toInt64), .long ((P (6 * (i - 1) + 1)).toInt64), .long ((P (6 * i + 4)).toInt64), .long ((P (6 * i + 5)).toInt64), .long ((P (6 * i + 2)).toInt64), .long ((P (6 * i + 3)).toInt64)]) (rest := []) (wr := [(hm, .inr (1, [.ref a, .ref b, .ref qa, .ref qu, .ref qb, .ref qh, .ref qm])), (a, .inr (6, [.ref qk, .ref qp, .int (nI n), .int (bz fu), .int (bz fa)])), (qk, .inl (cB, 3000, .inl K)), (qp, .inl (cI, 18000, .inl P))]) (n := 7) (c_MPath_add l D cI cB cJ qQ  b qk2 qp2 n2 K2 P2 fu2 fa2 (K i) ((P (6 * (i - 1) + 0)).toInt64) ((P (6 * (i - 1) + 1)).toInt64) ((P (6 * i + 4)).toInt64) ((P (6 * i + 5)).toInt64) ((P (6 * i + 2)).toInt64) ((P (6 * i + 3)).toInt64) (hn2) (hk i (by omega))) hx hb hml hown hts (amb_ok qQ) hK hP hD hS hA hM (gi_V gw_592 gw_565 gw_566 gw_34 gw_567) rfl (by decide +kernel) ⟨by omega, by omega⟩ [1, 2, 3] [0, 4, 5, 6] rfl rfl rfl rfl (by decide) rfl rfl rfl hl.1 rfl (Nat.le_of_ble_eq_true rfl) d_M_turn_217 ⟨by omega, by omega⟩ (fun u_36 H locs hok hP hD hS => ?_)
            obtain ⟨n'_37, K'_38, P'_39, fu'_40, fa'_41⟩ := u_36
            have hbg : n'_37 ≤ 3000 ∧ (lst n'_37 K'_38 P'_39, fu'_40, fa'_41) = addD (lst n2 K2 P2, fu2, fa2) (K i) ((P (6 * (i - 1) + 0)).toInt64) ((P (6 * (i - 1) + 1)).toInt64) ((P (6 * i + 4)).toInt64) ((P (6 * i + 5)).toInt64) ((P (6 * i + 2)).toInt64) ((P (6 * i + 3)).toInt64) := hok
            have hP : va_P D cl [(hm, .inr (1, [.ref a, .ref b, .ref qa, .ref qu, .ref qb, .ref qh, .ref qm])), (a, .inr (6, [.ref qk, .ref qp, .int (nI n), .int (bz fu), .int (bz fa)])), (qk, .inl (cB, 3000, .inl K)), (qp, .inl (cI, 18000, .inl P)), (b, .inr (6, [.ref qk2, .ref qp2, .int (nI n'_37), .int (bz fu'_40), .int (bz fa'_41)])), (qk2, .inl (cB, 3000, .inl K'_38)), (qp2, .inl (cI, 18000, .inl P'_39))] H := hP
            have hD : va_D A [(hm, .inr (1, [.ref a, .ref b, .ref qa, .ref qu, .ref qb, .ref qh, .ref qm])), (a, .inr (6, [.ref qk, .ref qp, .int (nI n), .int (bz fu), .int (bz fa)])), (qk, .inl (cB, 3000, .inl K)), (qp, .inl (cI, 18000, .inl P)), (b, .inr (6, [.ref qk2, .ref qp2, .int (nI n'_37), .int (bz fu'_40), .int (bz fa'_41)])), (qk2, .inl (cB, 3000, .inl K'_38)), (qp2, .inl (cI, 18000, .inl P'_39))] := hD
            refine W.eq (g2 := F0 m 220 ls []) rfl ?_
            refine lv_iinc (v := nI (i - 1)) (lv' := [(5, .int (nI (i - 1))), (6, .int 1), (0, .ref hm), (1, .int (nI f)), (2, .int (nI e_)), (3, .int 0), (4, .int (nI (e_ - 1)))]) hx hb d_M_turn_220 hl (k := 6) rfl (sb_m1 (show 0 < i by omega)) (by decide) rfl (fun ls hl => ?_)
            refine lv_goto (tgt := 70) hx hb d_M_turn_223 (by decide) ?_
            exact ih_70 (i - 1) n'_37 K'_38 P'_39 fu'_40 fa'_41 (by omega) (by omega) (by omega) (hbg.1) (by rw [tnL_s c_11, tnS_y (by omega) c_13, ← hbg.2] at hT; exact hT) _ _ _ hP hD hS (lv_sub hl [2, 3, 4, 5, 6, 0] rfl)
    exact L_70 (((e_ - 1) - f) + 1) (e_ - 1) n'_6 K'_7 P'_8 fu'_9 fa'_10 (Nat.lt_succ_self _) (by omega) (Nat.le_refl _) (hb1.1) (hRES.symm) _ _ _ hP hD hS (lv_sub hl [3, 4, 5, 2, 1, 0] rfl)
  · skip
    exact absurd c_1 hc
set_option maxHeartbeats 40000000 in
set_option maxRecDepth 100000 in
/-- turn -/
theorem c_M_turn1 (l : Launch) (D : va_G) (cI cB cJ : ClassId) (qQ : Nat) (hm : Nat) (a : Nat) (b : Nat) (qa : Nat) (qu : Nat) (qb : Nat) (qh : Nat) (qm : Nat) (qk : Nat) (qp : Nat) (n : Nat) (K : Nat → Int32) (P : Nat → Int32) (fu : Bool) (fa : Bool) (qk2 : Nat) (qp2 : Nat) (n2 : Nat) (K2 : Nat → Int32) (P2 : Nat → Int32) (fu2 : Bool) (fa2 : Bool) (f : Nat) (e_ : Nat) (hn : n ≤ 3000) (hk : ∀ i, i < n → kok (K i)) (hn2 : n2 ≤ 3000) (hfe : f + 2 ≤ e_) (hen : e_ ≤ n) (hc : K (e_ - 1) = 3) : ct l D cl [(cI, .int), (cB, .byte), (cJ, .long)] (amb qQ) y_M_turn w_M_turn 3 79 (0) (0) [.ref hm, .int (nI f), .int (nI e_)] [(hm, .inr (1, [.ref a, .ref b, .ref qa, .ref qu, .ref qb, .ref qh, .ref qm])), (a, .inr (6, [.ref qk, .ref qp, .int (nI n), .int (bz fu), .int (bz fa)])), (qk, .inl (cB, 3000, .inl K)), (qp, .inl (cI, 18000, .inl P)), (b, .inr (6, [.ref qk2, .ref qp2, .int (nI n2), .int (bz fu2), .int (bz fa2)])), (qk2, .inl (cB, 3000, .inl K2)), (qp2, .inl (cI, 18000, .inl P2))] (fun u_ : Nat × (Nat → Int32) × (Nat → Int32) × Bool × Bool => match u_ with | (n', K', P', fu', fa') => n' ≤ 3000 ∧ (lst n' K' P', fu', fa') = turnD (gp (lst n K P)) (lst n2 K2 P2, fu2, fa2) f e_) (fun u_ : Nat × (Nat → Int32) × (Nat → Int32) × Bool × Bool => match u_ with | (n', K', P', fu', fa') => none) (fun u_ : Nat × (Nat → Int32) × (Nat → Int32) × Bool × Bool => match u_ with | (n', K', P', fu', fa') => [(hm, .inr (1, [.ref a, .ref b, .ref qa, .ref qu, .ref qb, .ref qh, .ref qm])), (a, .inr (6, [.ref qk, .ref qp, .int (nI n), .int (bz fu), .int (bz fa)])), (qk, .inl (cB, 3000, .inl K)), (qp, .inl (cI, 18000, .inl P)), (b, .inr (6, [.ref qk2, .ref qp2, .int (nI n'), .int (bz fu'), .int (bz fa')])), (qk2, .inl (cB, 3000, .inl K')), (qp2, .inl (cI, 18000, .inl P'))]) := by
  refine ct_ofW (cc := b_M_turn) (maxL := 7) (ret := none) (by decide) rfl (Nat.le_of_ble_eq_true rfl) ?_
  intro p e R s m args below meth c A Q ls hx hb hr hml hts hown hlocks hname hRf hRc hRs hRl hQ hK hP hD hS hA hM hl
  have hl : lv_has ls 7 [(0, .ref hm), (1, .int (nI f)), (2, .int (nI e_))] := hl
  refine lv_aload_n hx hb d_M_turn_0 rfl (lv_at hl 0 rfl) ?_
  refine va_get (D := D) (ci := 1) (v := .ref a) (C := R_M) (T := T_M) (N := 7) hx hb hts (ui_M _) hown hK hP 0 rfl rfl 0 (by decide) (hts _ (gwc gw_509)) (fun _ h9 => h9) rfl d_M_turn_1 ?_
  refine va_getN (D := D) (ci := 6) (v := .ref qk) (C := R_MPath) (T := T_MPath) (N := 5) hx hb hts (ui_MPath _) hown hK hP 1 rfl rfl 0 (by decide) ((amb_nw_9 hM).use rfl) (fun _ h9 => h9) rfl d_M_turn_4 ?_
  refine lv_iload_n hx hb d_M_turn_7 rfl (lv_at hl 2 rfl) ?_
  refine lv_iconst (v := 1) hx hb d_M_turn_8 (by decide) ?_
  refine lv_isub hx hb d_M_turn_9 ?_
  refine tp_i (nI (e_ - 1)) (pk_sub (a := e_) (b := 1) (by omega)) ?_
  refine ld_b hx hb hK hP 2 1 rfl rfl (e_ - 1) (by omega) (by omega) d_M_turn_10 ?_
  refine lv_iconst (v := 3) hx hb d_M_turn_11 (by decide) ?_
  refine lv_icmp_ne (tgt := 19) hx hb d_M_turn_12 (by decide) (fun c_1 => ?_) (fun c_1 => ?_)
  · skip
    exact absurd hc c_1
  · skip
    refine lv_iconst (v := 1) hx hb d_M_turn_15 (by decide) ?_
    refine lv_goto (tgt := 20) hx hb d_M_turn_16 (by decide) ?_
    refine lv_istore_n (lv' := [(3, .int 1), (0, .ref hm), (1, .int (nI f)), (2, .int (nI e_))]) hx hb d_M_turn_20 rfl hl (by decide) rfl (fun ls hl => ?_)
    refine lv_iload_n hx hb d_M_turn_21 rfl (lv_at hl 0 rfl) ?_
    refine bz_eq (a1 := 1) (tgt := 31) hx hb (by omega) d_M_turn_22 (by decide) (fun c_2 => ?_) (fun c_2 => ?_)
    · exact absurd c_2 (by decide)
    refine lv_iload_n hx hb d_M_turn_25 rfl (lv_at hl 3 rfl) ?_
    refine lv_iconst (v := 2) hx hb d_M_turn_26 (by decide) ?_
    refine lv_isub hx hb d_M_turn_27 ?_
    refine tp_i (nI (e_ - 2)) (pk_sub (a := e_) (b := 2) (by omega)) ?_
    refine lv_goto (tgt := 34) hx hb d_M_turn_28 (by decide) ?_
    refine lv_istore (lv' := [(4, .int (nI (e_ - 2))), (3, .int 1), (0, .ref hm), (1, .int (nI f)), (2, .int (nI e_))]) hx hb d_M_turn_34 hl (by decide) rfl (fun ls hl => ?_)
    refine lv_aload_n hx hb d_M_turn_36 rfl (lv_at hl 2 rfl) ?_
    refine va_get (D := D) (ci := 1) (v := .ref b) (C := R_M) (T := T_M) (N := 7) hx hb hts (ui_M _) hown hK hP 0 rfl rfl 1 (by decide) (hts _ (gwc gw_510)) (fun _ h9 => h9) rfl d_M_turn_37 ?_
    refine lv_iconst (v := 0) hx hb d_M_turn_40 (by decide) ?_
    refine lv_aload_n hx hb d_M_turn_41 rfl (lv_at hl 2 rfl) ?_
    refine va_get (D := D) (ci := 1) (v := .ref a) (C := R_M) (T := T_M) (N := 7) hx hb hts (ui_M _) hown hK hP 0 rfl rfl 0 (by decide) (hts _ (gwc gw_509)) (fun _ h9 => h9) rfl d_M_turn_42 ?_
    refine lv_iload hx hb d_M_turn_45 (lv_at hl 0 rfl) ?_
    refine lv_iconst (v := 0) hx hb d_M_turn_47 (by decide) ?_
    refine ct_callV (ci := 6) (q0 := 1) (As := [.int (nI (e_ - 2)), .int 0]) (rest := [.int 0, .ref b]) (wr := [(hm, .inr (1, [.ref a, .ref b, .ref qa, .ref qu, .ref qb, .ref qh, .ref qm])), (b, .inr (6, [.ref qk2, .ref qp2, .int (nI n2), .int (bz fu2), .int (bz fa2)])), (qk2, .inl (cB, 3000, .inl K2)), (qp2, .inl (cI, 18000, .inl P2))]) (n := 2) (c_MPath_get l D cI cB cJ qQ  a qk qp n K P fu fa (e_ - 2) 0 (by omega) (by omega)) hx hb hml hown hts (amb_ok qQ) hK hP hD hS hA hM (gi_V gw_540 gw_541 gw_542 gw_34 gw_543) rfl (by decide +kernel) ⟨by omega, by omega⟩ [1, 2, 3] [0, 4, 5, 6] rfl rfl rfl rfl (by decide) rfl rfl rfl hl.1 rfl (Nat.le_of_ble_eq_true rfl) d_M_turn_48 ⟨by omega, by omega⟩ (fun u_3 H locs hok hP hD hS => ?_)
    have hP : va_P D cl [(hm, .inr (1, [.ref a, .ref b, .ref qa, .ref qu, .ref qb, .ref qh, .ref qm])), (b, .inr (6, [.ref qk2, .ref qp2, .int (nI n2), .int (bz fu2), .int (bz fa2)])), (qk2, .inl (cB, 3000, .inl K2)), (qp2, .inl (cI, 18000, .inl P2)), (a, .inr (6, [.ref qk, .ref qp, .int (nI n), .int (bz fu), .int (bz fa)])), (qk, .inl (cB, 3000, .inl K)), (qp, .inl (cI, 18000, .inl P))] H := hP
    have hD : va_D A [(hm, .inr (1, [.ref a, .ref b, .ref qa, .ref qu, .ref qb, .ref qh, .ref qm])), (b, .inr (6, [.ref qk2, .ref qp2, .int (nI n2), .int (bz fu2), .int (bz fa2)])), (qk2, .inl (cB, 3000, .inl K2)), (qp2, .inl (cI, 18000, .inl P2)), (a, .inr (6, [.ref qk, .ref qp, .int (nI n), .int (bz fu), .int (bz fa)])), (qk, .inl (cB, 3000, .inl K)), (qp, .inl (cI, 18000, .inl P))] := hD
    refine W.eq (g2 := F0 m 51 ls [.int (P (6 * (e_ - 2) + 0)), .int 0, .ref b]) rfl ?_
    refine lv_i2l (v := (P (6 * (e_ - 2) + 0)).toInt64) hx hb d_M_turn_51 rfl ?_
    refine lv_aload_n hx hb d_M_turn_52 rfl (lv_at hl 2 rfl) ?_
    refine va_get (D := D) (ci := 1) (v := .ref a) (C := R_M) (T := T_M) (N := 7) hx hb hts (ui_M _) hown hK hP 0 rfl rfl 0 (by decide) (hts _ (gwc gw_509)) (fun _ h9 => h9) rfl d_M_turn_53 ?_
    refine lv_iload hx hb d_M_turn_56 (lv_at hl 0 rfl) ?_
    refine lv_iconst (v := 1) hx hb d_M_turn_58 (by decide) ?_
    refine ct_callV (ci := 6) (q0 := 4) (As := [.int (nI (e_ - 2)), .int 1]) (rest := [.long ((P (6 * (e_ - 2) + 0)).toInt64), .int 0, .ref b]) (wr := [(hm, .inr (1, [.ref a, .ref b, .ref qa, .ref qu, .ref qb, .ref qh, .ref qm])), (b, .inr (6, [.ref qk2, .ref qp2, .int (nI n2), .int (bz fu2), .int (bz fa2)])), (qk2, .inl (cB, 3000, .inl K2)), (qp2, .inl (cI, 18000, .inl P2))]) (n := 2) (c_MPath_get l D cI cB cJ qQ  a qk qp n K P fu fa (e_ - 2) 1 (by omega) (by omega)) hx hb hml hown hts (amb_ok qQ) hK hP hD hS hA hM (gi_V gw_540 gw_541 gw_542 gw_34 gw_543) rfl (by decide +kernel) ⟨by omega, by omega⟩ [4, 5, 6] [0, 1, 2, 3] rfl rfl rfl rfl (by decide) rfl rfl rfl hl.1 rfl (Nat.le_of_ble_eq_true rfl) d_M_turn_59 ⟨by omega, by omega⟩ (fun u_4 H locs hok hP hD hS => ?_)
    have hP : va_P D cl [(hm, .inr (1, [.ref a, .ref b, .ref qa, .ref qu, .ref qb, .ref qh, .ref qm])), (b, .inr (6, [.ref qk2, .ref qp2, .int (nI n2), .int (bz fu2), .int (bz fa2)])), (qk2, .inl (cB, 3000, .inl K2)), (qp2, .inl (cI, 18000, .inl P2)), (a, .inr (6, [.ref qk, .ref qp, .int (nI n), .int (bz fu), .int (bz fa)])), (qk, .inl (cB, 3000, .inl K)), (qp, .inl (cI, 18000, .inl P))] H := hP
    have hD : va_D A [(hm, .inr (1, [.ref a, .ref b, .ref qa, .ref qu, .ref qb, .ref qh, .ref qm])), (b, .inr (6, [.ref qk2, .ref qp2, .int (nI n2), .int (bz fu2), .int (bz fa2)])), (qk2, .inl (cB, 3000, .inl K2)), (qp2, .inl (cI, 18000, .inl P2)), (a, .inr (6, [.ref qk, .ref qp, .int (nI n), .int (bz fu), .int (bz fa)])), (qk, .inl (cB, 3000, .inl K)), (qp, .inl (cI, 18000, .inl P))] := hD
    refine W.eq (g2 := F0 m 62 ls [.int (P (6 * (e_ - 2) + 1)), .long ((P (6 * (e_ - 2) + 0)).toInt64), .int 0, .ref b]) rfl ?_
    refine lv_i2l (v := (P (6 * (e_ - 2) + 1)).toInt64) hx hb d_M_turn_62 rfl ?_
    refine ct_callV (ci := 6) (q0 := 1) (As := [.int 0, .long ((P (6 * (e_ - 2) + 0)).toInt64), .long ((P (6 * (e_ - 2) + 1)).toInt64)]) (rest := []) (wr := [(hm, .inr (1, [.ref a, .ref b, .ref qa, .ref qu, .ref qb, .ref qh, .ref qm])), (a, .inr (6, [.ref qk, .ref qp, .int (nI n), .int (bz fu), .int (bz fa)])), (qk, .inl (cB, 3000, .inl K)), (qp, .inl (cI, 18000, .inl P))]) (n := 3) (c_MPath_addPoint l D cI cB cJ qQ  b qk2 qp2 n2 K2 P2 fu2 fa2 0 ((P (6 * (e_ - 2) + 0)).toInt64) ((P (6 * (e_ - 2) + 1)).toInt64) (hn2) (kok0)) hx hb hml hown hts (amb_ok qQ) hK hP hD hS hA hM (gi_V gw_587 gw_561 gw_562 gw_34 gw_563) rfl (by decide +kernel) ⟨by omega, by omega⟩ [1, 2, 3] [0, 4, 5, 6] rfl rfl rfl rfl (by decide) rfl rfl rfl hl.1 rfl (Nat.le_of_ble_eq_true rfl) d_M_turn_63 ⟨by omega, by omega⟩ (fun u_5 H locs hok hP hD hS => ?_)
    obtain ⟨n'_6, K'_7, P'_8, fu'_9, fa'_10⟩ := u_5
    have hb1 : n'_6 ≤ 3000 ∧ (lst n'_6 K'_7 P'_8, fu'_9, fa'_10) = addD (lst n2 K2 P2, fu2, fa2) 0 ((P (6 * (e_ - 2) + 0)).toInt64) ((P (6 * (e_ - 2) + 1)).toInt64) 0 0 0 0 := hok
    have hP : va_P D cl [(hm, .inr (1, [.ref a, .ref b, .ref qa, .ref qu, .ref qb, .ref qh, .ref qm])), (a, .inr (6, [.ref qk, .ref qp, .int (nI n), .int (bz fu), .int (bz fa)])), (qk, .inl (cB, 3000, .inl K)), (qp, .inl (cI, 18000, .inl P)), (b, .inr (6, [.ref qk2, .ref qp2, .int (nI n'_6), .int (bz fu'_9), .int (bz fa'_10)])), (qk2, .inl (cB, 3000, .inl K'_7)), (qp2, .inl (cI, 18000, .inl P'_8))] H := hP
    have hD : va_D A [(hm, .inr (1, [.ref a, .ref b, .ref qa, .ref qu, .ref qb, .ref qh, .ref qm])), (a, .inr (6, [.ref qk, .ref qp, .int (nI n), .int (bz fu), .int (bz fa)])), (qk, .inl (cB, 3000, .inl K)), (qp, .inl (cI, 18000, .inl P)), (b, .inr (6, [.ref qk2, .ref qp2, .int (nI n'_6), .int (bz fu'_9), .int (bz fa'_10)])), (qk2, .inl (cB, 3000, .inl K'_7)), (qp2, .inl (cI, 18000, .inl P'_8))] := hD
    refine W.eq (g2 := F0 m 66 ls []) rfl ?_
    obtain ⟨RES, hRES⟩ : ∃ r, r = tnL (gp (lst n K P)) f (e_ - 2 - f) (lst n'_6 K'_7 P'_8, fu'_9, fa'_10) := ⟨_, rfl⟩
    have hR1 := hRES
    rw [hb1.2] at hR1
    refine lv_iload hx hb d_M_turn_66 (lv_at hl 0 rfl) ?_
    refine lv_istore (lv' := [(5, .int (nI (e_ - 2))), (4, .int (nI (e_ - 2))), (3, .int 1), (0, .ref hm), (1, .int (nI f)), (2, .int (nI e_))]) hx hb d_M_turn_68 hl (by decide) rfl (fun ls hl => ?_)
    have L_70 : ∀ (n_ : Nat) (i : Nat) (n2 : Nat) (K2 : Nat → Int32) (P2 : Nat → Int32) (fu2 : Bool) (fa2 : Bool), i - f < n_ → (f ≤ i) → (i ≤ e_ - 2) → (n2 ≤ 3000) → (tnL (gp (lst n K P)) f (i - f) (lst n2 K2 P2, fu2, fa2) = RES) → ∀ (H : Heap) (locs : List Loc) (ls : Array Slot), va_P D cl [(hm, .inr (1, [.ref a, .ref b, .ref qa, .ref qu, .ref qb, .ref qh, .ref qm])), (a, .inr (6, [.ref qk, .ref qp, .int (nI n), .int (bz fu), .int (bz fa)])), (qk, .inl (cB, 3000, .inl K)), (qp, .inl (cI, 18000, .inl P)), (b, .inr (6, [.ref qk2, .ref qp2, .int (nI n2), .int (bz fu2), .int (bz fa2)])), (qk2, .inl (cB, 3000, .inl K2)), (qp2, .inl (cI, 18000, .inl P2))] H → va_D A [(hm, .inr (1, [.ref a, .ref b, .ref qa, .ref qu, .ref qb, .ref qh, .ref qm])), (a, .inr (6, [.ref qk, .ref qp, .int (nI n), .int (bz fu), .int (bz fa)])), (qk, .inl (cB, 3000, .inl K)), (qp, .inl (cI, 18000, .inl P)), (b, .inr (6, [.ref qk2, .ref qp2, .int (nI n2), .int (bz fu2), .int (bz fa2)])), (qk2, .inl (cB, 3000, .inl K2)), (qp2, .inl (cI, 18000, .inl P2))] → va_S A s.heap H locs → lv_has ls 7 [(0, .ref hm), (1, .int (nI f)), (2, .int (nI e_)), (3, .int 1), (4, .int (nI (e_ - 2))), (5, .int (nI i))] → W p l e R s m args below meth c H locs (0) (0) Q (F0 m 70 ls []) := by
      intro n_
      induction n_ with
      | zero => intro i n2 K2 P2 fu2 fa2 hm_; exact absurd hm_ (Nat.not_lt_zero _)
      | succ n_ ih_70 =>
        intro i n2 K2 P2 fu2 fa2 hm_ hfi hil hn2 hT H locs ls hP hD hS hl
        refine lv_iload hx hb d_M_turn_70 (lv_at hl 5 rfl) ?_
        refine lv_iload_n hx hb d_M_turn_72 rfl (lv_at hl 1 rfl) ?_
        refine bn_le (a1 := i) (b1 := f) (tgt := 226) hx hb (by omega) (by omega) d_M_turn_73 (by decide) (fun c_11 => ?_) (fun c_11 => ?_)
        · skip
          have hT9 : (lst n2 K2 P2, fu2, fa2) = RES := by rw [← hT, show i - f = 0 by omega]; rfl
          refine lv_iload_n hx hb d_M_turn_226 rfl (lv_at hl 3 rfl) ?_
          refine bz_eq (a1 := 1) (tgt := 260) hx hb (by omega) d_M_turn_227 (by decide) (fun c_12 => ?_) (fun c_12 => ?_)
          · exact absurd c_12 (by decide)
          refine lv_aload_n hx hb d_M_turn_230 rfl (lv_at hl 0 rfl) ?_
          refine va_get (D := D) (ci := 1) (v := .ref b) (C := R_M) (T := T_M) (N := 7) hx hb hts (ui_M _) hown hK hP 0 rfl rfl 1 (by decide) (hts _ (gwc gw_510)) (fun _ h9 => h9) rfl d_M_turn_231 ?_
          refine lv_iconst (v := 3) hx hb d_M_turn_234 (by decide) ?_
          refine lv_aload_n hx hb d_M_turn_235 rfl (lv_at hl 0 rfl) ?_
          refine va_get (D := D) (ci := 1) (v := .ref a) (C := R_M) (T := T_M) (N := 7) hx hb hts (ui_M _) hown hK hP 0 rfl rfl 0 (by decide) (hts _ (gwc gw_509)) (fun _ h9 => h9) rfl d_M_turn_236 ?_
          refine lv_iload hx hb d_M_turn_239 (lv_at hl 4 rfl) ?_
          refine lv_iconst (v := 0) hx hb d_M_turn_241 (by decide) ?_
          refine ct_callV (ci := 6) (q0 := 1) (As := [.int (nI (e_ - 2)), .int 0]) (rest := [.int 3, .ref b]) (wr := [(hm, .inr (1, [.ref a, .ref b, .ref qa, .ref qu, .ref qb, .ref qh, .ref qm])), (b, .inr (6, [.ref qk2, .ref qp2, .int (nI n2), .int (bz fu2), .int (bz fa2)])), (qk2, .inl (cB, 3000, .inl K2)), (qp2, .inl (cI, 18000, .inl P2))]) (n := 2) (c_MPath_get l D cI cB cJ qQ  a qk qp n K P fu fa (e_ - 2) 0 (by omega) (by omega)) hx hb hml hown hts (amb_ok qQ) hK hP hD hS hA hM (gi_V gw_540 gw_541 gw_542 gw_34 gw_543) rfl (by decide +kernel) ⟨by omega, by omega⟩ [1, 2, 3] [0, 4, 5, 6] rfl rfl rfl rfl (by decide) rfl rfl rfl hl.1 rfl (Nat.le_of_ble_eq_true rfl) d_M_turn_242 ⟨by omega, by omega⟩ (fun u_13 H locs hok hP hD hS => ?_)
          have hP : va_P D cl [(hm, .inr (1, [.ref a, .ref b, .ref qa, .ref qu, .ref qb, .ref qh, .ref qm])), (b, .inr (6, [.ref qk2, .ref qp2, .int (nI n2), .int (bz fu2), .int (bz fa2)])), (qk2, .inl (cB, 3000, .inl K2)), (qp2, .inl (cI, 18000, .inl P2)), (a, .inr (6, [.ref qk, .ref qp, .int (nI n), .int (bz fu), .int (bz fa)])), (qk, .inl (cB, 3000, .inl K)), (qp, .inl (cI, 18000, .inl P))] H := hP
          have hD : va_D A [(hm, .inr (1, [.ref a, .ref b, .ref qa, .ref qu, .ref qb, .ref qh, .ref qm])), (b, .inr (6, [.ref qk2, .ref qp2, .int (nI n2), .int (bz fu2), .int (bz fa2)])), (qk2, .inl (cB, 3000, .inl K2)), (qp2, .inl (cI, 18000, .inl P2)), (a, .inr (6, [.ref qk, .ref qp, .int (nI n), .int (bz fu), .int (bz fa)])), (qk, .inl (cB, 3000, .inl K)), (qp, .inl (cI, 18000, .inl P))] := hD
          refine W.eq (g2 := F0 m 245 ls [.int (P (6 * (e_ - 2) + 0)), .int 3, .ref b]) rfl ?_
          refine lv_i2l (v := (P (6 * (e_ - 2) + 0)).toInt64) hx hb d_M_turn_245 rfl ?_
          refine lv_aload_n hx hb d_M_turn_246 rfl (lv_at hl 0 rfl) ?_
          refine va_get (D := D) (ci := 1) (v := .ref a) (C := R_M) (T := T_M) (N := 7) hx hb hts (ui_M _) hown hK hP 0 rfl rfl 0 (by decide) (hts _ (gwc gw_509)) (fun _ h9 => h9) rfl d_M_turn_247 ?_
          refine lv_iload hx hb d_M_turn_250 (lv_at hl 4 rfl) ?_
          refine lv_iconst (v := 1) hx hb d_M_turn_252 (by decide) ?_
          refine ct_callV (ci := 6) (q0 := 4) (As := [.int (nI (e_ - 2)), .int 1]) (rest := [.long ((P (6 * (e_ - 2) + 0)).toInt64), .int 3, .ref b]) (wr := [(hm, .inr (1, [.ref a, .ref b, .ref qa, .ref qu, .ref qb, .ref qh, .ref qm])), (b, .inr (6, [.ref qk2, .ref qp2, .int (nI n2), .int (bz fu2), .int (bz fa2)])), (qk2, .inl (cB, 3000, .inl K2)), (qp2, .inl (cI, 18000, .inl P2))]) (n := 2) (c_MPath_get l D cI cB cJ qQ  a qk qp n K P fu fa (e_ - 2) 1 (by omega) (by omega)) hx hb hml hown hts (amb_ok qQ) hK hP hD hS hA hM (gi_V gw_540 gw_541 gw_542 gw_34 gw_543) rfl (by decide +kernel) ⟨by omega, by omega⟩ [4, 5, 6] [0, 1, 2, 3] rfl rfl rfl rfl (by decide) rfl rfl rfl hl.1 rfl (Nat.le_of_ble_eq_true rfl) d_M_turn_253 ⟨by omega, by omega⟩ (fun u_14 H locs hok hP hD hS => ?_)
          have hP : va_P D cl [(hm, .inr (1, [.ref a, .ref b, .ref qa, .ref qu, .ref qb, .ref qh, .ref qm])), (b, .inr (6, [.ref qk2, .ref qp2, .int (nI n2), .int (bz fu2), .int (bz fa2)])), (qk2, .inl (cB, 3000, .inl K2)), (qp2, .inl (cI, 18000, .inl P2)), (a, .inr (6, [.ref qk, .ref qp, .int (nI n), .int (bz fu), .int (bz fa)])), (qk, .inl (cB, 3000, .inl K)), (qp, .inl (cI, 18000, .inl P))] H := hP
          have hD : va_D A [(hm, .inr (1, [.ref a, .ref b, .ref qa, .ref qu, .ref qb, .ref qh, .ref qm])), (b, .inr (6, [.ref qk2, .ref qp2, .int (nI n2), .int (bz fu2), .int (bz fa2)])), (qk2, .inl (cB, 3000, .inl K2)), (qp2, .inl (cI, 18000, .inl P2)), (a, .inr (6, [.ref qk, .ref qp, .int (nI n), .int (bz fu), .int (bz fa)])), (qk, .inl (cB, 3000, .inl K)), (qp, .inl (cI, 18000, .inl P))] := hD
          refine W.eq (g2 := F0 m 256 ls [.int (P (6 * (e_ - 2) + 1)), .long ((P (6 * (e_ - 2) + 0)).toInt64), .int 3, .ref b]) rfl ?_
          refine lv_i2l (v := (P (6 * (e_ - 2) + 1)).toInt64) hx hb d_M_turn_256 rfl ?_
          refine ct_callV (ci := 6) (q0 := 1) (As := [.int 3, .long ((P (6 * (e_ - 2) + 0)).toInt64), .long ((P (6 * (e_ - 2) + 1)).toInt64)]) (rest := []) (wr := [(hm, .inr (1, [.ref a, .ref b, .ref qa, .ref qu, .ref qb, .ref qh, .ref qm])), (a, .inr (6, [.ref qk, .ref qp, .int (nI n), .int (bz fu), .int (bz fa)])), (qk, .inl (cB, 3000, .inl K)), (qp, .inl (cI, 18000, .inl P))]) (n := 3) (c_MPath_addPoint l D cI cB cJ qQ  b qk2 qp2 n2 K2 P2 fu2 fa2 3 ((P (6 * (e_ - 2) + 0)).toInt64) ((P (6 * (e_ - 2) + 1)).toInt64) (hn2) (kok3)) hx hb hml hown hts (amb_ok qQ) hK hP hD hS hA hM (gi_V gw_587 gw_561 gw_562 gw_34 gw_563) rfl (by decide +kernel) ⟨by omega, by omega⟩ [1, 2, 3] [0, 4, 5, 6] rfl rfl rfl rfl (by decide) rfl rfl rfl hl.1 rfl (Nat.le_of_ble_eq_true rfl) d_M_turn_257 ⟨by omega, by omega⟩ (fun u_15 H locs hok hP hD hS => ?_)
          obtain ⟨n'_16, K'_17, P'_18, fu'_19, fa'_20⟩ := u_15
          have hb2 : n'_16 ≤ 3000 ∧ (lst n'_16 K'_17 P'_18, fu'_19, fa'_20) = addD (lst n2 K2 P2, fu2, fa2) 3 ((P (6 * (e_ - 2) + 0)).toInt64) ((P (6 * (e_ - 2) + 1)).toInt64) 0 0 0 0 := hok
          have hP : va_P D cl [(hm, .inr (1, [.ref a, .ref b, .ref qa, .ref qu, .ref qb, .ref qh, .ref qm])), (a, .inr (6, [.ref qk, .ref qp, .int (nI n), .int (bz fu), .int (bz fa)])), (qk, .inl (cB, 3000, .inl K)), (qp, .inl (cI, 18000, .inl P)), (b, .inr (6, [.ref qk2, .ref qp2, .int (nI n'_16), .int (bz fu'_19), .int (bz fa'_20)])), (qk2, .inl (cB, 3000, .inl K'_17)), (qp2, .inl (cI, 18000, .inl P'_18))] H := hP
          have hD : va_D A [(hm, .inr (1, [.ref a, .ref b, .ref qa, .ref qu, .ref qb, .ref qh, .ref qm])), (a, .inr (6, [.ref qk, .ref qp, .int (nI n), .int (bz fu), .int (bz fa)])), (qk, .inl (cB, 3000, .inl K)), (qp, .inl (cI, 18000, .inl P)), (b, .inr (6, [.ref qk2, .ref qp2, .int (nI n'_16), .int (bz fu'_19), .int (bz fa'_20)])), (qk2, .inl (cB, 3000, .inl K'_17)), (qp2, .inl (cI, 18000, .inl P'_18))] := hD
          refine W.eq (g2 := F0 m 260 ls []) rfl ?_
          exact ct_retv hQ hx hb hr hlocks hP hD hS (n'_16, K'_17, P'_18, fu'_19, fa'_20) [(hm, .inr (1, [.ref a, .ref b, .ref qa, .ref qu, .ref qb, .ref qh, .ref qm])), (a, .inr (6, [.ref qk, .ref qp, .int (nI n), .int (bz fu), .int (bz fa)])), (qk, .inl (cB, 3000, .inl K)), (qp, .inl (cI, 18000, .inl P)), (b, .inr (6, [.ref qk2, .ref qp2, .int (nI n'_16), .int (bz fu'_19), .int (bz fa'_20)])), (qk2, .inl (cB, 3000, .inl K'_17)), (qp2, .inl (cI, 18000, .inl P'_18))] [0, 1, 2, 3, 4, 5, 6] (rfl) (⟨hb2.1, by rw [hb2.2, turnD_y hen (by omega) hc, ← hR1, hT9]⟩) (rfl) rfl rfl (by omega) (by omega) d_M_turn_260
        · skip
          refine lv_aload_n hx hb d_M_turn_76 rfl (lv_at hl 0 rfl) ?_
          refine va_get (D := D) (ci := 1) (v := .ref a) (C := R_M) (T := T_M) (N := 7) hx hb hts (ui_M _) hown hK hP 0 rfl rfl 0 (by decide) (hts _ (gwc gw_509)) (fun _ h9 => h9) rfl d_M_turn_77 ?_
          refine va_getN (D := D) (ci := 6) (v := .ref qk) (C := R_MPath) (T := T_MPath) (N := 5) hx hb hts (ui_MPath _) hown hK hP 1 rfl rfl 0 (by decide) ((amb_nw_9 hM).use rfl) (fun _ h9 => h9) rfl d_M_turn_80 ?_
          refine lv_iload hx hb d_M_turn_83 (lv_at hl 5 rfl) ?_
          refine ld_b hx hb hK hP 2 1 rfl rfl i (by omega) (by omega) d_M_turn_85 ?_
          refine lv_iconst (v := 2) hx hb d_M_turn_86 (by decide) ?_
          refine lv_icmp_ne (tgt := 94) hx hb d_M_turn_87 (by decide) (fun c_21 => ?_) (fun c_21 => ?_)
          · skip
            refine lv_iconst (v := 0) hx hb d_M_turn_94 (by decide) ?_
            refine lv_istore (lv' := [(6, .int 0), (0, .ref hm), (1, .int (nI f)), (2, .int (nI e_)), (3, .int 1), (4, .int (nI (e_ - 2))), (5, .int (nI i))]) hx hb d_M_turn_95 hl (by decide) rfl (fun ls hl => ?_)
            refine lv_aload_n hx hb d_M_turn_97 rfl (lv_at hl 1 rfl) ?_
            refine va_get (D := D) (ci := 1) (v := .ref b) (C := R_M) (T := T_M) (N := 7) hx hb hts (ui_M _) hown hK hP 0 rfl rfl 1 (by decide) (hts _ (gwc gw_510)) (fun _ h9 => h9) rfl d_M_turn_98 ?_
            refine lv_aload_n hx hb d_M_turn_101 rfl (lv_at hl 1 rfl) ?_
            refine va_get (D := D) (ci := 1) (v := .ref a) (C := R_M) (T := T_M) (N := 7) hx hb hts (ui_M _) hown hK hP 0 rfl rfl 0 (by decide) (hts _ (gwc gw_509)) (fun _ h9 => h9) rfl d_M_turn_102 ?_
            refine va_getN (D := D) (ci := 6) (v := .ref qk) (C := R_MPath) (T := T_MPath) (N := 5) hx hb hts (ui_MPath _) hown hK hP 1 rfl rfl 0 (by decide) ((amb_nw_9 hM).use rfl) (fun _ h9 => h9) rfl d_M_turn_105 ?_
            refine lv_iload hx hb d_M_turn_108 (lv_at hl 6 rfl) ?_
            refine ld_b hx hb hK hP 2 1 rfl rfl i (by omega) (by omega) d_M_turn_110 ?_
            refine lv_aload_n hx hb d_M_turn_111 rfl (lv_at hl 1 rfl) ?_
            refine va_get (D := D) (ci := 1) (v := .ref a) (C := R_M) (T := T_M) (N := 7) hx hb hts (ui_M _) hown hK hP 0 rfl rfl 0 (by decide) (hts _ (gwc gw_509)) (fun _ h9 => h9) rfl d_M_turn_112 ?_
            refine lv_iload hx hb d_M_turn_115 (lv_at hl 6 rfl) ?_
            refine lv_iconst (v := 1) hx hb d_M_turn_117 (by decide) ?_
            refine lv_isub hx hb d_M_turn_118 ?_
            refine tp_i (nI (i - 1)) (pk_sub (a := i) (b := 1) (by omega)) ?_
            refine lv_iconst (v := 0) hx hb d_M_turn_119 (by decide) ?_
            refine ct_callV (ci := 6) (q0 := 1) (As := [.int (nI (i - 1)), .int 0]) (rest := [.int (K i), .ref b]) (wr := [(hm, .inr (1, [.ref a, .ref b, .ref qa, .ref qu, .ref qb, .ref qh, .ref qm])), (b, .inr (6, [.ref qk2, .ref qp2, .int (nI n2), .int (bz fu2), .int (bz fa2)])), (qk2, .inl (cB, 3000, .inl K2)), (qp2, .inl (cI, 18000, .inl P2))]) (n := 2) (c_MPath_get l D cI cB cJ qQ  a qk qp n K P fu fa (i - 1) 0 (by omega) (by omega)) hx hb hml hown hts (amb_ok qQ) hK hP hD hS hA hM (gi_V gw_540 gw_541 gw_542 gw_34 gw_543) rfl (by decide +kernel) ⟨by omega, by omega⟩ [1, 2, 3] [0, 4, 5, 6] rfl rfl rfl rfl (by decide) rfl rfl rfl hl.1 rfl (Nat.le_of_ble_eq_true rfl) d_M_turn_120 ⟨by omega, by omega⟩ (fun u_22 H locs hok hP hD hS => ?_)
            have hP : va_P D cl [(hm, .inr (1, [.ref a, .ref b, .ref qa, .ref qu, .ref qb, .ref qh, .ref qm])), (b, .inr (6, [.ref qk2, .ref qp2, .int (nI n2), .int (bz fu2), .int (bz fa2)])), (qk2, .inl (cB, 3000, .inl K2)), (qp2, .inl (cI, 18000, .inl P2)), (a, .inr (6, [.ref qk, .ref qp, .int (nI n), .int (bz fu), .int (bz fa)])), (qk, .inl (cB, 3000, .inl K)), (qp, .inl (cI, 18000, .inl P))] H := hP
            have hD : va_D A [(hm, .inr (1, [.ref a, .ref b, .ref qa, .ref qu, .ref qb, .ref qh, .ref qm])), (b, .inr (6, [.ref qk2, .ref qp2, .int (nI n2), .int (bz fu2), .int (bz fa2)])), (qk2, .inl (cB, 3000, .inl K2)), (qp2, .inl (cI, 18000, .inl P2)), (a, .inr (6, [.ref qk, .ref qp, .int (nI n), .int (bz fu), .int (bz fa)])), (qk, .inl (cB, 3000, .inl K)), (qp, .inl (cI, 18000, .inl P))] := hD
            refine W.eq (g2 := F0 m 123 ls [.int (P (6 * (i - 1) + 0)), .int (K i), .ref b]) rfl ?_
            refine lv_i2l (v := (P (6 * (i - 1) + 0)).toInt64) hx hb d_M_turn_123 rfl ?_
            refine lv_aload_n hx hb d_M_turn_124 rfl (lv_at hl 1 rfl) ?_
            refine va_get (D := D) (ci := 1) (v := .ref a) (C := R_M) (T := T_M) (N := 7) hx hb hts (ui_M _) hown hK hP 0 rfl rfl 0 (by decide) (hts _ (gwc gw_509)) (fun _ h9 => h9) rfl d_M_turn_125 ?_
            refine lv_iload hx hb d_M_turn_128 (lv_at hl 6 rfl) ?_
            refine lv_iconst (v := 1) hx hb d_M_turn_130 (by decide) ?_
            refine lv_isub hx hb d_M_turn_131 ?_
            refine tp_i (nI (i - 1)) (pk_sub (a := i) (b := 1) (by omega)) ?_
            refine lv_iconst (v := 1) hx hb d_M_turn_132 (by decide) ?_
            refine ct_callV (ci := 6) (q0 := 4) (As := [.int (nI (i - 1)), .int 1]) (rest := [.long ((P (6 * (i - 1) + 0)).toInt64), .int (K i), .ref b]) (wr := [(hm, .inr (1, [.ref a, .ref b, .ref qa, .ref qu, .ref qb, .ref qh, .ref qm])), (b, .inr (6, [.ref qk2, .ref qp2, .int (nI n2), .int (bz fu2), .int (bz fa2)])), (qk2, .inl (cB, 3000, .inl K2)), (qp2, .inl (cI, 18000, .inl P2))]) (n := 2) (c_MPath_get l D cI cB cJ qQ  a qk qp n K P fu fa (i - 1) 1 (by omega) (by omega)) hx hb hml hown hts (amb_ok qQ) hK hP hD hS hA hM (gi_V gw_540 gw_541 gw_542 gw_34 gw_543) rfl (by decide +kernel) ⟨by omega, by omega⟩ [4, 5, 6] [0, 1, 2, 3] rfl rfl rfl rfl (by decide) rfl rfl rfl hl.1 rfl (Nat.le_of_ble_eq_true rfl) d_M_turn_133 ⟨by omega, by omega⟩ (fun u_23 H locs hok hP hD hS => ?_)
            have hP : va_P D cl [(hm, .inr (1, [.ref a, .ref b, .ref qa, .ref qu, .ref qb, .ref qh, .ref qm])), (b, .inr (6, [.ref qk2, .ref qp2, .int (nI n2), .int (bz fu2), .int (bz fa2)])), (qk2, .inl (cB, 3000, .inl K2)), (qp2, .inl (cI, 18000, .inl P2)), (a, .inr (6, [.ref qk, .ref qp, .int (nI n), .int (bz fu), .int (bz fa)])), (qk, .inl (cB, 3000, .inl K)), (qp, .inl (cI, 18000, .inl P))] H := hP
            have hD : va_D A [(hm, .inr (1, [.ref a, .ref b, .ref qa, .ref qu, .ref qb, .ref qh, .ref qm])), (b, .inr (6, [.ref qk2, .ref qp2, .int (nI n2), .int (bz fu2), .int (bz fa2)])), (qk2, .inl (cB, 3000, .inl K2)), (qp2, .inl (cI, 18000, .inl P2)), (a, .inr (6, [.ref qk, .ref qp, .int (nI n), .int (bz fu), .int (bz fa)])), (qk, .inl (cB, 3000, .inl K)), (qp, .inl (cI, 18000, .inl P))] := hD
            refine W.eq (g2 := F0 m 136 ls [.int (P (6 * (i - 1) + 1)), .long ((P (6 * (i - 1) + 0)).toInt64), .int (K i), .ref b]) rfl ?_
            refine lv_i2l (v := (P (6 * (i - 1) + 1)).toInt64) hx hb d_M_turn_136 rfl ?_
            refine lv_iload hx hb d_M_turn_137 (lv_at hl 0 rfl) ?_
            refine bz_eq (a1 := 0) (tgt := 156) hx hb (by omega) d_M_turn_139 (by decide) (fun c_24 => ?_) (fun c_24 => ?_)
            rotate_left
            · exact absurd c_24 (by decide)
            refine lv_lconst (v := 0) hx hb d_M_turn_156 (by decide) ?_
            refine lv_iload hx hb d_M_turn_157 (lv_at hl 0 rfl) ?_
            refine bz_eq (a1 := 0) (tgt := 176) hx hb (by omega) d_M_turn_159 (by decide) (fun c_25 => ?_) (fun c_25 => ?_)
            rotate_left
            · exact absurd c_25 (by decide)
            refine lv_lconst (v := 0) hx hb d_M_turn_176 (by decide) ?_
            refine lv_iload hx hb d_M_turn_177 (lv_at hl 0 rfl) ?_
            refine bz_eq (a1 := 0) (tgt := 196) hx hb (by omega) d_M_turn_179 (by decide) (fun c_26 => ?_) (fun c_26 => ?_)
            rotate_left
            · exact absurd c_26 (by decide)
            refine lv_lconst (v := 0) hx hb d_M_turn_196 (by decide) ?_
            refine lv_iload hx hb d_M_turn_197 (lv_at hl 0 rfl) ?_
            refine bz_eq (a1 := 0) (tgt := 216) hx hb (by omega) d_M_turn_199 (by decide) (fun c_27 => ?_) (fun c_27 => ?_)
            rotate_left
            · exact absurd c_27 (by decide)
            refine lv_lconst (v := 0) hx hb d_M_turn_216 (by decide) ?_
            refine ct_callV (ci := 6) (q0 := 1) (As := [.int (K i), .long ((P (6 * (i - 1) + 0)).toInt64), .long ((P (6 * (i - 1) + 1)).toInt64), .long 0, .long 0, .long 0, .long 0]) (rest := []) (wr := [(hm, .inr (1, [.ref a, .ref b, .ref qa, .ref qu, .ref qb, .ref qh, .ref qm])), (a, .inr (6, [.ref qk, .ref qp, .int (nI n), .int (bz fu), .int (bz fa)])), (qk, .inl (cB, 3000, .inl K)), (qp, .inl (cI, 18000, .inl P))]) (n := 7) (c_MPath_add l D cI cB cJ qQ  b qk2 qp2 n2 K2 P2 fu2 fa2 (K i) ((P (6 * (i - 1) + 0)).toInt64) ((P (6 * (i - 1) + 1)).toInt64) 0 0 0 0 (hn2) (hk i (by omega))) hx hb hml hown hts (amb_ok qQ) hK hP hD hS hA hM (gi_V gw_592 gw_565 gw_566 gw_34 gw_567) rfl (by decide +kernel) ⟨by omega, by omega⟩ [1, 2, 3] [0, 4, 5, 6] rfl rfl rfl rfl (by decide) rfl rfl rfl hl.1 rfl (Nat.le_of_ble_eq_true rfl) d_M_turn_217 ⟨by omega, by omega⟩ (fun u_28 H locs hok hP hD hS => ?_)
            obtain ⟨n'_29, K'_30, P'_31, fu'_32, fa'_33⟩ := u_28
            have hbg : n'_29 ≤ 3000 ∧ (lst n'_29 K'_30 P'_31, fu'_32, fa'_33) = addD (lst n2 K2 P2, fu2, fa2) (K i) ((P (6 * (i - 1) + 0)).toInt64) ((P (6 * (i - 1) + 1)).toInt64) 0 0 0 0 := hok
            have hP : va_P D cl [(hm, .inr (1, [.ref a, .ref b, .ref qa, .ref qu, .ref qb, .ref qh, .ref qm])), (a, .inr (6, [.ref qk, .ref qp, .int (nI n), .int (bz fu), .int (bz fa)])), (qk, .inl (cB, 3000, .inl K)), (qp, .inl (cI, 18000, .inl P)), (b, .inr (6, [.ref qk2, .ref qp2, .int (nI n'_29), .int (bz fu'_32), .int (bz fa'_33)])), (qk2, .inl (cB, 3000, .inl K'_30)), (qp2, .inl (cI, 18000, .inl P'_31))] H := hP
            have hD : va_D A [(hm, .inr (1, [.ref a, .ref b, .ref qa, .ref qu, .ref qb, .ref qh, .ref qm])), (a, .inr (6, [.ref qk, .ref qp, .int (nI n), .int (bz fu), .int (bz fa)])), (qk, .inl (cB, 3000, .inl K)), (qp, .inl (cI, 18000, .inl P)), (b, .inr (6, [.ref qk2, .ref qp2, .int (nI n'_29), .int (bz fu'_32), .int (bz fa'_33)])), (qk2, .inl (cB, 3000, .inl K'_30)), (qp2, .inl (cI, 18000, .inl P'_31))] := hD
            refine W.eq (g2 := F0 m 220 ls []) rfl ?_
            refine lv_iinc (v := nI (i - 1)) (lv' := [(5, .int (nI (i - 1))), (6, .int 0), (0, .ref hm), (1, .int (nI f)), (2, .int (nI e_)), (3, .int 1), (4, .int (nI (e_ - 2)))]) hx hb d_M_turn_220 hl (k := 6) rfl (sb_m1 (show 0 < i by omega)) (by decide) rfl (fun ls hl => ?_)
            refine lv_goto (tgt := 70) hx hb d_M_turn_223 (by decide) ?_
            exact ih_70 (i - 1) n'_29 K'_30 P'_31 fu'_32 fa'_33 (by omega) (by omega) (by omega) (hbg.1) (by rw [tnL_s c_11, tnS_n (by omega) c_21, ← hbg.2] at hT; exact hT) _ _ _ hP hD hS (lv_sub hl [2, 3, 4, 5, 6, 0] rfl)
          · skip
            refine lv_iconst (v := 1) hx hb d_M_turn_90 (by decide) ?_
            refine lv_goto (tgt := 95) hx hb d_M_turn_91 (by decide) ?_
            refine lv_istore (lv' := [(6, .int 1), (0, .ref hm), (1, .int (nI f)), (2, .int (nI e_)), (3, .int 1), (4, .int (nI (e_ - 2))), (5, .int (nI i))]) hx hb d_M_turn_95 hl (by decide) rfl (fun ls hl => ?_)
            refine lv_aload_n hx hb d_M_turn_97 rfl (lv_at hl 1 rfl) ?_
            refine va_get (D := D) (ci := 1) (v := .ref b) (C := R_M) (T := T_M) (N := 7) hx hb hts (ui_M _) hown hK hP 0 rfl rfl 1 (by decide) (hts _ (gwc gw_510)) (fun _ h9 => h9) rfl d_M_turn_98 ?_
            refine lv_aload_n hx hb d_M_turn_101 rfl (lv_at hl 1 rfl) ?_
            refine va_get (D := D) (ci := 1) (v := .ref a) (C := R_M) (T := T_M) (N := 7) hx hb hts (ui_M _) hown hK hP 0 rfl rfl 0 (by decide) (hts _ (gwc gw_509)) (fun _ h9 => h9) rfl d_M_turn_102 ?_
            refine va_getN (D := D) (ci := 6) (v := .ref qk) (C := R_MPath) (T := T_MPath) (N := 5) hx hb hts (ui_MPath _) hown hK hP 1 rfl rfl 0 (by decide) ((amb_nw_9 hM).use rfl) (fun _ h9 => h9) rfl d_M_turn_105 ?_
            refine lv_iload hx hb d_M_turn_108 (lv_at hl 6 rfl) ?_
            refine ld_b hx hb hK hP 2 1 rfl rfl i (by omega) (by omega) d_M_turn_110 ?_
            refine lv_aload_n hx hb d_M_turn_111 rfl (lv_at hl 1 rfl) ?_
            refine va_get (D := D) (ci := 1) (v := .ref a) (C := R_M) (T := T_M) (N := 7) hx hb hts (ui_M _) hown hK hP 0 rfl rfl 0 (by decide) (hts _ (gwc gw_509)) (fun _ h9 => h9) rfl d_M_turn_112 ?_
            refine lv_iload hx hb d_M_turn_115 (lv_at hl 6 rfl) ?_
            refine lv_iconst (v := 1) hx hb d_M_turn_117 (by decide) ?_
            refine lv_isub hx hb d_M_turn_118 ?_
            refine tp_i (nI (i - 1)) (pk_sub (a := i) (b := 1) (by omega)) ?_
            refine lv_iconst (v := 0) hx hb d_M_turn_119 (by decide) ?_
            refine ct_callV (ci := 6) (q0 := 1) (As := [.int (nI (i - 1)), .int 0]) (rest := [.int (K i), .ref b]) (wr := [(hm, .inr (1, [.ref a, .ref b, .ref qa, .ref qu, .ref qb, .ref qh, .ref qm])), (b, .inr (6, [.ref qk2, .ref qp2, .int (nI n2), .int (bz fu2), .int (bz fa2)])), (qk2, .inl (cB, 3000, .inl K2)), (qp2, .inl (cI, 18000, .inl P2))]) (n := 2) (c_MPath_get l D cI cB cJ qQ  a qk qp n K P fu fa (i - 1) 0 (by omega) (by omega)) hx hb hml hown hts (amb_ok qQ) hK hP hD hS hA hM (gi_V gw_540 gw_541 gw_542 gw_34 gw_543) rfl (by decide +kernel) ⟨by omega, by omega⟩ [1, 2, 3] [0, 4, 5, 6] rfl rfl rfl rfl (by decide) rfl rfl rfl hl.1 rfl (Nat.le_of_ble_eq_true rfl) d_M_turn_120 ⟨by omega, by omega⟩ (fun u_34 H locs hok hP hD hS => ?_)
            have hP : va_P D cl [(hm, .inr (1, [.ref a, .ref b, .ref qa, .ref qu, .ref qb, .ref qh, .ref qm])), (b, .inr (6, [.ref qk2, .ref qp2, .int (nI n2), .int (bz fu2), .int (bz fa2)])), (qk2, .inl (cB, 3000, .inl K2)), (qp2, .inl (cI, 18000, .inl P2)), (a, .inr (6, [.ref qk, .ref qp, .int (nI n), .int (bz fu), .int (bz fa)])), (qk, .inl (cB, 3000, .inl K)), (qp, .inl (cI, 18000, .inl P))] H := hP
            have hD : va_D A [(hm, .inr (1, [.ref a, .ref b, .ref qa, .ref qu, .ref qb, .ref qh, .ref qm])), (b, .inr (6, [.ref qk2, .ref qp2, .int (nI n2), .int (bz fu2), .int (bz fa2)])), (qk2, .inl (cB, 3000, .inl K2)), (qp2, .inl (cI, 18000, .inl P2)), (a, .inr (6, [.ref qk, .ref qp, .int (nI n), .int (bz fu), .int (bz fa)])), (qk, .inl (cB, 3000, .inl K)), (qp, .inl (cI, 18000, .inl P))] := hD
            refine W.eq (g2 := F0 m 123 ls [.int (P (6 * (i - 1) + 0)), .int (K i), .ref b]) rfl ?_
            refine lv_i2l (v := (P (6 * (i - 1) + 0)).toInt64) hx hb d_M_turn_123 rfl ?_
            refine lv_aload_n hx hb d_M_turn_124 rfl (lv_at hl 1 rfl) ?_
            refine va_get (D := D) (ci := 1) (v := .ref a) (C := R_M) (T := T_M) (N := 7) hx hb hts (ui_M _) hown hK hP 0 rfl rfl 0 (by decide) (hts _ (gwc gw_509)) (fun _ h9 => h9) rfl d_M_turn_125 ?_
            refine lv_iload hx hb d_M_turn_128 (lv_at hl 6 rfl) ?_
            refine lv_iconst (v := 1) hx hb d_M_turn_130 (by decide) ?_
            refine lv_isub hx hb d_M_turn_131 ?_
            refine tp_i (nI (i - 1)) (pk_sub (a := i) (b := 1) (by omega)) ?_
            refine lv_iconst (v := 1) hx hb d_M_turn_132 (by decide) ?_
            refine ct_callV (ci := 6) (q0 := 4) (As := [.int (nI (i - 1)), .int 1]) (rest := [.long ((P (6 * (i - 1) + 0)).toInt64), .int (K i), .ref b]) (wr := [(hm, .inr (1, [.ref a, .ref b, .ref qa, .ref qu, .ref qb, .ref qh, .ref qm])), (b, .inr (6, [.ref qk2, .ref qp2, .int (nI n2), .int (bz fu2), .int (bz fa2)])), (qk2, .inl (cB, 3000, .inl K2)), (qp2, .inl (cI, 18000, .inl P2))]) (n := 2) (c_MPath_get l D cI cB cJ qQ  a qk qp n K P fu fa (i - 1) 1 (by omega) (by omega)) hx hb hml hown hts (amb_ok qQ) hK hP hD hS hA hM (gi_V gw_540 gw_541 gw_542 gw_34 gw_543) rfl (by decide +kernel) ⟨by omega, by omega⟩ [4, 5, 6] [0, 1, 2, 3] rfl rfl rfl rfl (by decide) rfl rfl rfl hl.1 rfl (Nat.le_of_ble_eq_true rfl) d_M_turn_133 ⟨by omega, by omega⟩ (fun u_35 H locs hok hP hD hS => ?_)
            have hP : va_P D cl [(hm, .inr (1, [.ref a, .ref b, .ref qa, .ref qu, .ref qb, .ref qh, .ref qm])), (b, .inr (6, [.ref qk2, .ref qp2, .int (nI n2), .int (bz fu2), .int (bz fa2)])), (qk2, .inl (cB, 3000, .inl K2)), (qp2, .inl (cI, 18000, .inl P2)), (a, .inr (6, [.ref qk, .ref qp, .int (nI n), .int (bz fu), .int (bz fa)])), (qk, .inl (cB, 3000, .inl K)), (qp, .inl (cI, 18000, .inl P))] H := hP
            have hD : va_D A [(hm, .inr (1, [.ref a, .ref b, .ref qa, .ref qu, .ref qb, .ref qh, .ref qm])), (b, .inr (6, [.ref qk2, .ref qp2, .int (nI n2), .int (bz fu2), .int (bz fa2)])), (qk2, .inl (cB, 3000, .inl K2)), (qp2, .inl (cI, 18000, .inl P2)), (a, .inr (6, [.ref qk, .ref qp, .int (nI n), .int (bz fu), .int (bz fa)])), (qk, .inl (cB, 3000, .inl K)), (qp, .inl (cI, 18000, .inl P))] := hD
            refine W.eq (g2 := F0 m 136 ls [.int (P (6 * (i - 1) + 1)), .long ((P (6 * (i - 1) + 0)).toInt64), .int (K i), .ref b]) rfl ?_
            refine lv_i2l (v := (P (6 * (i - 1) + 1)).toInt64) hx hb d_M_turn_136 rfl ?_
            refine lv_iload hx hb d_M_turn_137 (lv_at hl 0 rfl) ?_
            refine bz_eq (a1 := 1) (tgt := 156) hx hb (by omega) d_M_turn_139 (by decide) (fun c_36 => ?_) (fun c_36 => ?_)
            · exact absurd c_36 (by decide)
            refine lv_aload_n hx hb d_M_turn_142 rfl (lv_at hl 1 rfl) ?_
            refine va_get (D := D) (ci := 1) (v := .ref a) (C := R_M) (T := T_M) (N := 7) hx hb hts (ui_M _) hown hK hP 0 rfl rfl 0 (by decide) (hts _ (gwc gw_509)) (fun _ h9 => h9) rfl d_M_turn_143 ?_
            refine lv_iload hx hb d_M_turn_146 (lv_at hl 6 rfl) ?_
            refine lv_iconst (v := 4) hx hb d_M_turn_148 (by decide) ?_
            refine ct_callV (ci := 6) (q0 := 4) (As := [.int (nI i), .int 4]) (rest := [.long ((P (6 * (i - 1) + 1)).toInt64), .long ((P (6 * (i - 1) + 0)).toInt64), .int (K i), .ref b]) (wr := [(hm, .inr (1, [.ref a, .ref b, .ref qa, .ref qu, .ref qb, .ref qh, .ref qm])), (b, .inr (6, [.ref qk2, .ref qp2, .int (nI n2), .int (bz fu2), .int (bz fa2)])), (qk2, .inl (cB, 3000, .inl K2)), (qp2, .inl (cI, 18000, .inl P2))]) (n := 2) (c_MPath_get l D cI cB cJ qQ  a qk qp n K P fu fa i 4 (by omega) (by omega)) hx hb hml hown hts (amb_ok qQ) hK hP hD hS hA hM (gi_V gw_540 gw_541 gw_542 gw_34 gw_543) rfl (by decide +kernel) ⟨by omega, by omega⟩ [4, 5, 6] [0, 1, 2, 3] rfl rfl rfl rfl (by decide) rfl rfl rfl hl.1 rfl (Nat.le_of_ble_eq_true rfl) d_M_turn_149 ⟨by omega, by omega⟩ (fun u_37 H locs hok hP hD hS => ?_)
            have hP : va_P D cl [(hm, .inr (1, [.ref a, .ref b, .ref qa, .ref qu, .ref qb, .ref qh, .ref qm])), (b, .inr (6, [.ref qk2, .ref qp2, .int (nI n2), .int (bz fu2), .int (bz fa2)])), (qk2, .inl (cB, 3000, .inl K2)), (qp2, .inl (cI, 18000, .inl P2)), (a, .inr (6, [.ref qk, .ref qp, .int (nI n), .int (bz fu), .int (bz fa)])), (qk, .inl (cB, 3000, .inl K)), (qp, .inl (cI, 18000, .inl P))] H := hP
            have hD : va_D A [(hm, .inr (1, [.ref a, .ref b, .ref qa, .ref qu, .ref qb, .ref qh, .ref qm])), (b, .inr (6, [.ref qk2, .ref qp2, .int (nI n2), .int (bz fu2), .int (bz fa2)])), (qk2, .inl (cB, 3000, .inl K2)), (qp2, .inl (cI, 18000, .inl P2)), (a, .inr (6, [.ref qk, .ref qp, .int (nI n), .int (bz fu), .int (bz fa)])), (qk, .inl (cB, 3000, .inl K)), (qp, .inl (cI, 18000, .inl P))] := hD
            refine W.eq (g2 := F0 m 152 ls [.int (P (6 * i + 4)), .long ((P (6 * (i - 1) + 1)).toInt64), .long ((P (6 * (i - 1) + 0)).toInt64), .int (K i), .ref b]) rfl ?_
            refine lv_i2l (v := (P (6 * i + 4)).toInt64) hx hb d_M_turn_152 rfl ?_
            refine lv_goto (tgt := 157) hx hb d_M_turn_153 (by decide) ?_
            refine lv_iload hx hb d_M_turn_157 (lv_at hl 0 rfl) ?_
            refine bz_eq (a1 := 1) (tgt := 176) hx hb (by omega) d_M_turn_159 (by decide) (fun c_38 => ?_) (fun c_38 => ?_)
            · exact absurd c_38 (by decide)
            refine lv_aload_n hx hb d_M_turn_162 rfl (lv_at hl 1 rfl) ?_
            refine va_get (D := D) (ci := 1) (v := .ref a) (C := R_M) (T := T_M) (N := 7) hx hb hts (ui_M _) hown hK hP 0 rfl rfl 0 (by decide) (hts _ (gwc gw_509)) (fun _ h9 => h9) rfl d_M_turn_163 ?_
            refine lv_iload hx hb d_M_turn_166 (lv_at hl 6 rfl) ?_
            refine lv_iconst (v := 5) hx hb d_M_turn_168 (by decide) ?_
            refine ct_callV (ci := 6) (q0 := 4) (As := [.int (nI i), .int 5]) (rest := [.long ((P (6 * i + 4)).toInt64), .long ((P (6 * (i - 1) + 1)).toInt64), .long ((P (6 * (i - 1) + 0)).toInt64), .int (K i), .ref b]) (wr := [(hm, .inr (1, [.ref a, .ref b, .ref qa, .ref qu, .ref qb, .ref qh, .ref qm])), (b, .inr (6, [.ref qk2, .ref qp2, .int (nI n2), .int (bz fu2), .int (bz fa2)])), (qk2, .inl (cB, 3000, .inl K2)), (qp2, .inl (cI, 18000, .inl P2))]) (n := 2) (c_MPath_get l D cI cB cJ qQ  a qk qp n K P fu fa i 5 (by omega) (by omega)) hx hb hml hown hts (amb_ok qQ) hK hP hD hS hA hM (gi_V gw_540 gw_541 gw_542 gw_34 gw_543) rfl (by decide +kernel) ⟨by omega, by omega⟩ [4, 5, 6] [0, 1, 2, 3] rfl rfl rfl rfl (by decide) rfl rfl rfl hl.1 rfl (Nat.le_of_ble_eq_true rfl) d_M_turn_169 ⟨by omega, by omega⟩ (fun u_39 H locs hok hP hD hS => ?_)
            have hP : va_P D cl [(hm, .inr (1, [.ref a, .ref b, .ref qa, .ref qu, .ref qb, .ref qh, .ref qm])), (b, .inr (6, [.ref qk2, .ref qp2, .int (nI n2), .int (bz fu2), .int (bz fa2)])), (qk2, .inl (cB, 3000, .inl K2)), (qp2, .inl (cI, 18000, .inl P2)), (a, .inr (6, [.ref qk, .ref qp, .int (nI n), .int (bz fu), .int (bz fa)])), (qk, .inl (cB, 3000, .inl K)), (qp, .inl (cI, 18000, .inl P))] H := hP
            have hD : va_D A [(hm, .inr (1, [.ref a, .ref b, .ref qa, .ref qu, .ref qb, .ref qh, .ref qm])), (b, .inr (6, [.ref qk2, .ref qp2, .int (nI n2), .int (bz fu2), .int (bz fa2)])), (qk2, .inl (cB, 3000, .inl K2)), (qp2, .inl (cI, 18000, .inl P2)), (a, .inr (6, [.ref qk, .ref qp, .int (nI n), .int (bz fu), .int (bz fa)])), (qk, .inl (cB, 3000, .inl K)), (qp, .inl (cI, 18000, .inl P))] := hD
            refine W.eq (g2 := F0 m 172 ls [.int (P (6 * i + 5)), .long ((P (6 * i + 4)).toInt64), .long ((P (6 * (i - 1) + 1)).toInt64), .long ((P (6 * (i - 1) + 0)).toInt64), .int (K i), .ref b]) rfl ?_
            refine lv_i2l (v := (P (6 * i + 5)).toInt64) hx hb d_M_turn_172 rfl ?_
            refine lv_goto (tgt := 177) hx hb d_M_turn_173 (by decide) ?_
            refine lv_iload hx hb d_M_turn_177 (lv_at hl 0 rfl) ?_
            refine bz_eq (a1 := 1) (tgt := 196) hx hb (by omega) d_M_turn_179 (by decide) (fun c_40 => ?_) (fun c_40 => ?_)
            · exact absurd c_40 (by decide)
            refine lv_aload_n hx hb d_M_turn_182 rfl (lv_at hl 1 rfl) ?_
            refine va_get (D := D) (ci := 1) (v := .ref a) (C := R_M) (T := T_M) (N := 7) hx hb hts (ui_M _) hown hK hP 0 rfl rfl 0 (by decide) (hts _ (gwc gw_509)) (fun _ h9 => h9) rfl d_M_turn_183 ?_
            refine lv_iload hx hb d_M_turn_186 (lv_at hl 6 rfl) ?_
            refine lv_iconst (v := 2) hx hb d_M_turn_188 (by decide) ?_
            refine ct_callVW (ci := 6) (q0 := 4) (As := [.int (nI i), .int 2]) (rest := [.long ((P (6 * i + 5)).toInt64), .long ((P (6 * i + 4)).toInt64), .long ((P (6 * (i - 1) + 1)).toInt64), .long ((P (6 * (i - 1) + 0)).toInt64), .int (K i), .ref b]) (wr := [(hm, .inr (1, [.ref a, .ref b, .ref qa, .ref qu, .ref qb, .ref qh, .ref qm])), (b, .inr (6, [.ref qk2, .ref qp2, .int (nI n2), .int (bz fu2), .int (bz fa2)])), (qk2, .inl (cB, 3000, .inl K2)), (qp2, .inl (cI, 18000, .inl P2))]) (n := 2) 10 (by decide) (c_MPath_get l D cI cB cJ qQ  a qk qp n K P fu fa i 2 (by omega) (by omega)) hx hb hml hown hts (amb_ok qQ) hK hP hD hS hA hM (gi_V gw_540 gw_541 gw_542 gw_34 gw_543) rfl (by decide +kernel) ⟨by omega, by omega⟩ [4, 5, 6] [0, 1, 2, 3] rfl rfl rfl rfl (by decide) rfl rfl rfl hl.1 rfl (Nat.le_of_ble_eq_true rfl) d_M_turn_189 ⟨by omega, by omega⟩ (fun u_41 H locs hok hP hD hS => ?_)
            have hP : va_P D cl [(hm, .inr (1, [.ref a, .ref b, .ref qa, .ref qu, .ref qb, .ref qh, .ref qm])), (b, .inr (6, [.ref qk2, .ref qp2, .int (nI n2), .int (bz fu2), .int (bz fa2)])), (qk2, .inl (cB, 3000, .inl K2)), (qp2, .inl (cI, 18000, .inl P2)), (a, .inr (6, [.ref qk, .ref qp, .int (nI n), .int (bz fu), .int (bz fa)])), (qk, .inl (cB, 3000, .inl K)), (qp, .inl (cI, 18000, .inl P))] H := hP
            have hD : va_D A [(hm, .inr (1, [.ref a, .ref b, .ref qa, .ref qu, .ref qb, .ref qh, .ref qm])), (b, .inr (6, [.ref qk2, .ref qp2, .int (nI n2), .int (bz fu2), .int (bz fa2)])), (qk2, .inl (cB, 3000, .inl K2)), (qp2, .inl (cI, 18000, .inl P2)), (a, .inr (6, [.ref qk, .ref qp, .int (nI n), .int (bz fu), .int (bz fa)])), (qk, .inl (cB, 3000, .inl K)), (qp, .inl (cI, 18000, .inl P))] := hD
            refine W.eq (g2 := F0 m 192 ls [.int (P (6 * i + 2)), .long ((P (6 * i + 5)).toInt64), .long ((P (6 * i + 4)).toInt64), .long ((P (6 * (i - 1) + 1)).toInt64), .long ((P (6 * (i - 1) + 0)).toInt64), .int (K i), .ref b]) rfl ?_
            refine lv_i2l (v := (P (6 * i + 2)).toInt64) hx hb d_M_turn_192 rfl ?_
            refine lv_goto (tgt := 197) hx hb d_M_turn_193 (by decide) ?_
            refine lv_iload hx hb d_M_turn_197 (lv_at hl 0 rfl) ?_
            refine bz_eq (a1 := 1) (tgt := 216) hx hb (by omega) d_M_turn_199 (by decide) (fun c_42 => ?_) (fun c_42 => ?_)
            · exact absurd c_42 (by decide)
            refine lv_aload_n hx hb d_M_turn_202 rfl (lv_at hl 1 rfl) ?_
            refine va_get (D := D) (ci := 1) (v := .ref a) (C := R_M) (T := T_M) (N := 7) hx hb hts (ui_M _) hown hK hP 0 rfl rfl 0 (by decide) (hts _ (gwc gw_509)) (fun _ h9 => h9) rfl d_M_turn_203 ?_
            refine lv_iload hx hb d_M_turn_206 (lv_at hl 6 rfl) ?_
            refine lv_iconst (v := 3) hx hb d_M_turn_208 (by decide) ?_
            refine ct_callVW (ci := 6) (q0 := 4) (As := [.int (nI i), .int 3]) (rest := [.long ((P (6 * i + 2)).toInt64), .long ((P (6 * i + 5)).toInt64), .long ((P (6 * i + 4)).toInt64), .long ((P (6 * (i - 1) + 1)).toInt64), .long ((P (6 * (i - 1) + 0)).toInt64), .int (K i), .ref b]) (wr := [(hm, .inr (1, [.ref a, .ref b, .ref qa, .ref qu, .ref qb, .ref qh, .ref qm])), (b, .inr (6, [.ref qk2, .ref qp2, .int (nI n2), .int (bz fu2), .int (bz fa2)])), (qk2, .inl (cB, 3000, .inl K2)), (qp2, .inl (cI, 18000, .inl P2))]) (n := 2) 12 (by decide) (c_MPath_get l D cI cB cJ qQ  a qk qp n K P fu fa i 3 (by omega) (by omega)) hx hb hml hown hts (amb_ok qQ) hK hP hD hS hA hM (gi_V gw_540 gw_541 gw_542 gw_34 gw_543) rfl (by decide +kernel) ⟨by omega, by omega⟩ [4, 5, 6] [0, 1, 2, 3] rfl rfl rfl rfl (by decide) rfl rfl rfl hl.1 rfl (Nat.le_of_ble_eq_true rfl) d_M_turn_209 ⟨by omega, by omega⟩ (fun u_43 H locs hok hP hD hS => ?_)
            have hP : va_P D cl [(hm, .inr (1, [.ref a, .ref b, .ref qa, .ref qu, .ref qb, .ref qh, .ref qm])), (b, .inr (6, [.ref qk2, .ref qp2, .int (nI n2), .int (bz fu2), .int (bz fa2)])), (qk2, .inl (cB, 3000, .inl K2)), (qp2, .inl (cI, 18000, .inl P2)), (a, .inr (6, [.ref qk, .ref qp, .int (nI n), .int (bz fu), .int (bz fa)])), (qk, .inl (cB, 3000, .inl K)), (qp, .inl (cI, 18000, .inl P))] H := hP
            have hD : va_D A [(hm, .inr (1, [.ref a, .ref b, .ref qa, .ref qu, .ref qb, .ref qh, .ref qm])), (b, .inr (6, [.ref qk2, .ref qp2, .int (nI n2), .int (bz fu2), .int (bz fa2)])), (qk2, .inl (cB, 3000, .inl K2)), (qp2, .inl (cI, 18000, .inl P2)), (a, .inr (6, [.ref qk, .ref qp, .int (nI n), .int (bz fu), .int (bz fa)])), (qk, .inl (cB, 3000, .inl K)), (qp, .inl (cI, 18000, .inl P))] := hD
            refine W.eq (g2 := F0 m 212 ls [.int (P (6 * i + 3)), .long ((P (6 * i + 2)).toInt64), .long ((P (6 * i + 5)).toInt64), .long ((P (6 * i + 4)).toInt64), .long ((P (6 * (i - 1) + 1)).toInt64), .long ((P (6 * (i - 1) + 0)).toInt64), .int (K i), .ref b]) rfl ?_
            refine lv_i2l (v := (P (6 * i + 3)).toInt64) hx hb d_M_turn_212 rfl ?_
            refine lv_goto (tgt := 217) hx hb d_M_turn_213 (by decide) ?_
            refine ct_callV (ci := 6) (q0 := 1) (As := [.int (K i), .long ((P (6 * (i - 1) + 0)).toInt64), .long ((P (6 * (i - 1) + 1)).toInt64), .long ((P (6 * i + 4)).toInt64), .long ((P (6 * i + 5)).toInt64), .long ((P (6 * i + 2)).toInt64), .long ((P (6 * i + 3)).toInt64)]) (rest := []) (wr := [(hm, .inr (1, [.ref a, .ref b, .ref qa, .ref qu, .ref qb, .ref qh, .ref qm])), (a, .inr (6, [.ref qk, .ref qp, .int (nI n), .int (bz fu), .int (bz fa)])), (qk, .inl (cB, 3000, .inl K)), (qp, .inl (cI, 18000, .inl P))]) (n := 7) (c_MPath_add l D cI cB cJ qQ  b qk2 qp2 n2 K2 P2 fu2 fa2 (K i) ((P (6 * (i - 1) + 0)).toInt64) ((P (6 * (i - 1) + 1)).toInt64) ((P (6 * i + 4)).toInt64) ((P (6 * i + 5)).toInt64) ((P (6 * i + 2)).toInt64) ((P (6 * i + 3)).toInt64) (hn2) (hk i (by omega))) hx hb hml hown hts (amb_ok qQ) hK hP hD hS hA hM (gi_V gw_592 gw_565 gw_566 gw_34 gw_567) rfl (by decide +kernel) ⟨by omega, by omega⟩ [1, 2, 3] [0, 4, 5, 6] rfl rfl rfl rfl (by decide) rfl rfl rfl hl.1 rfl (Nat.le_of_ble_eq_true rfl) d_M_turn_217 ⟨by omega, by omega⟩ (fun u_44 H locs hok hP hD hS => ?_)
            obtain ⟨n'_45, K'_46, P'_47, fu'_48, fa'_49⟩ := u_44
            have hbg : n'_45 ≤ 3000 ∧ (lst n'_45 K'_46 P'_47, fu'_48, fa'_49) = addD (lst n2 K2 P2, fu2, fa2) (K i) ((P (6 * (i - 1) + 0)).toInt64) ((P (6 * (i - 1) + 1)).toInt64) ((P (6 * i + 4)).toInt64) ((P (6 * i + 5)).toInt64) ((P (6 * i + 2)).toInt64) ((P (6 * i + 3)).toInt64) := hok
            have hP : va_P D cl [(hm, .inr (1, [.ref a, .ref b, .ref qa, .ref qu, .ref qb, .ref qh, .ref qm])), (a, .inr (6, [.ref qk, .ref qp, .int (nI n), .int (bz fu), .int (bz fa)])), (qk, .inl (cB, 3000, .inl K)), (qp, .inl (cI, 18000, .inl P)), (b, .inr (6, [.ref qk2, .ref qp2, .int (nI n'_45), .int (bz fu'_48), .int (bz fa'_49)])), (qk2, .inl (cB, 3000, .inl K'_46)), (qp2, .inl (cI, 18000, .inl P'_47))] H := hP
            have hD : va_D A [(hm, .inr (1, [.ref a, .ref b, .ref qa, .ref qu, .ref qb, .ref qh, .ref qm])), (a, .inr (6, [.ref qk, .ref qp, .int (nI n), .int (bz fu), .int (bz fa)])), (qk, .inl (cB, 3000, .inl K)), (qp, .inl (cI, 18000, .inl P)), (b, .inr (6, [.ref qk2, .ref qp2, .int (nI n'_45), .int (bz fu'_48), .int (bz fa'_49)])), (qk2, .inl (cB, 3000, .inl K'_46)), (qp2, .inl (cI, 18000, .inl P'_47))] := hD
            refine W.eq (g2 := F0 m 220 ls []) rfl ?_
            refine lv_iinc (v := nI (i - 1)) (lv' := [(5, .int (nI (i - 1))), (6, .int 1), (0, .ref hm), (1, .int (nI f)), (2, .int (nI e_)), (3, .int 1), (4, .int (nI (e_ - 2)))]) hx hb d_M_turn_220 hl (k := 6) rfl (sb_m1 (show 0 < i by omega)) (by decide) rfl (fun ls hl => ?_)
            refine lv_goto (tgt := 70) hx hb d_M_turn_223 (by decide) ?_
            exact ih_70 (i - 1) n'_45 K'_46 P'_47 fu'_48 fa'_49 (by omega) (by omega) (by omega) (hbg.1) (by rw [tnL_s c_11, tnS_y (by omega) c_21, ← hbg.2] at hT; exact hT) _ _ _ hP hD hS (lv_sub hl [2, 3, 4, 5, 6, 0] rfl)
    exact L_70 (((e_ - 2) - f) + 1) (e_ - 2) n'_6 K'_7 P'_8 fu'_9 fa'_10 (Nat.lt_succ_self _) (by omega) (Nat.le_refl _) (hb1.1) (hRES.symm) _ _ _ hP hD hS (lv_sub hl [3, 4, 5, 2, 1, 0] rfl)
set_option maxHeartbeats 40000000 in
set_option maxRecDepth 100000 in
/-- reverse -/
theorem c_M_reverse (l : Launch) (D : va_G) (cI cB cJ : ClassId) (qQ : Nat) (hm : Nat) (a : Nat) (b : Nat) (qa : Nat) (qu : Nat) (qb : Nat) (qh : Nat) (qm : Nat) (qk : Nat) (qp : Nat) (n : Nat) (K : Nat → Int32) (P : Nat → Int32) (fu : Bool) (fa : Bool) (qk2 : Nat) (qp2 : Nat) (n2 : Nat) (K2 : Nat → Int32) (P2 : Nat → Int32) (fu2 : Bool) (fa2 : Bool) (hn : n ≤ 3000) (hk : ∀ i, i < n → kok (K i)) (h0 : 0 < n → K 0 = 0) : ct l D cl [(cI, .int), (cB, .byte), (cJ, .long)] (amb qQ) y_M_reverse w_M_reverse 4 105 (0) (0) [.ref hm] [(hm, .inr (1, [.ref a, .ref b, .ref qa, .ref qu, .ref qb, .ref qh, .ref qm])), (a, .inr (6, [.ref qk, .ref qp, .int (nI n), .int (bz fu), .int (bz fa)])), (qk, .inl (cB, 3000, .inl K)), (qp, .inl (cI, 18000, .inl P)), (b, .inr (6, [.ref qk2, .ref qp2, .int (nI n2), .int (bz fu2), .int (bz fa2)])), (qk2, .inl (cB, 3000, .inl K2)), (qp2, .inl (cI, 18000, .inl P2))] (fun u_ : Int32 × Nat × Nat × Nat × Nat × Nat × (Nat → Int32) × (Nat → Int32) × Bool × Bool × Nat × Nat × Nat × (Nat → Int32) × (Nat → Int32) × Bool × Bool => match u_ with | (r, a', b', qk', qp', n', K', P', fu', fa', qk2', qp2', n2', K2', P2', fu2', fa2') => n' ≤ 3000 ∧ (r, lst n' K' P') = rReverse (lst n K P)) (fun u_ : Int32 × Nat × Nat × Nat × Nat × Nat × (Nat → Int32) × (Nat → Int32) × Bool × Bool × Nat × Nat × Nat × (Nat → Int32) × (Nat → Int32) × Bool × Bool => match u_ with | (r, a', b', qk', qp', n', K', P', fu', fa', qk2', qp2', n2', K2', P2', fu2', fa2') => some (.int r)) (fun u_ : Int32 × Nat × Nat × Nat × Nat × Nat × (Nat → Int32) × (Nat → Int32) × Bool × Bool × Nat × Nat × Nat × (Nat → Int32) × (Nat → Int32) × Bool × Bool => match u_ with | (r, a', b', qk', qp', n', K', P', fu', fa', qk2', qp2', n2', K2', P2', fu2', fa2') => [(hm, .inr (1, [.ref a', .ref b', .ref qa, .ref qu, .ref qb, .ref qh, .ref qm])), (a', .inr (6, [.ref qk', .ref qp', .int (nI n'), .int (bz fu'), .int (bz fa')])), (qk', .inl (cB, 3000, .inl K')), (qp', .inl (cI, 18000, .inl P')), (b', .inr (6, [.ref qk2', .ref qp2', .int (nI n2'), .int (bz fu2'), .int (bz fa2')])), (qk2', .inl (cB, 3000, .inl K2')), (qp2', .inl (cI, 18000, .inl P2'))]) := by
  refine ct_ofW (cc := b_M_reverse) (maxL := 3) (ret := (some .int)) (by decide) rfl (Nat.le_of_ble_eq_true rfl) ?_
  intro p e R s m args below meth c A Q ls hx hb hr hml hts hown hlocks hname hRf hRc hRs hRl hQ hK hP hD hS hA hM hl
  have hl : lv_has ls 3 [(0, .ref hm)] := hl
  refine lv_aload_n hx hb d_M_reverse_0 rfl (lv_at hl 0 rfl) ?_
  refine va_get (D := D) (ci := 1) (v := .ref b) (C := R_M) (T := T_M) (N := 7) hx hb hts (ui_M _) hown hK hP 0 rfl rfl 1 (by decide) (hts _ (gwc gw_510)) (fun _ h9 => h9) rfl d_M_reverse_1 ?_
  refine ct_callV (ci := 6) (q0 := 4) (As := []) (rest := []) (wr := [(hm, .inr (1, [.ref a, .ref b, .ref qa, .ref qu, .ref qb, .ref qh, .ref qm])), (a, .inr (6, [.ref qk, .ref qp, .int (nI n), .int (bz fu), .int (bz fa)])), (qk, .inl (cB, 3000, .inl K)), (qp, .inl (cI, 18000, .inl P))]) (n := 0) (c_MPath_empty l D cI cB cJ qQ  b qk2 qp2 n2 K2 P2 fu2 fa2 ) hx hb hml hown hts (amb_ok qQ) hK hP hD hS hA hM (gi_V gw_605 gw_553 gw_554 gw_34 gw_555) rfl (by decide +kernel) ⟨by omega, by omega⟩ [4, 5, 6] [0, 1, 2, 3] rfl rfl rfl rfl (by decide) rfl rfl rfl hl.1 rfl (Nat.le_of_ble_eq_true rfl) d_M_reverse_4 ⟨by omega, by omega⟩ (fun u_1 H locs hok hP hD hS => ?_)
  have hP : va_P D cl [(hm, .inr (1, [.ref a, .ref b, .ref qa, .ref qu, .ref qb, .ref qh, .ref qm])), (a, .inr (6, [.ref qk, .ref qp, .int (nI n), .int (bz fu), .int (bz fa)])), (qk, .inl (cB, 3000, .inl K)), (qp, .inl (cI, 18000, .inl P)), (b, .inr (6, [.ref qk2, .ref qp2, .int (nI 0), .int (bz false), .int (bz false)])), (qk2, .inl (cB, 3000, .inl K2)), (qp2, .inl (cI, 18000, .inl P2))] H := hP
  have hD : va_D A [(hm, .inr (1, [.ref a, .ref b, .ref qa, .ref qu, .ref qb, .ref qh, .ref qm])), (a, .inr (6, [.ref qk, .ref qp, .int (nI n), .int (bz fu), .int (bz fa)])), (qk, .inl (cB, 3000, .inl K)), (qp, .inl (cI, 18000, .inl P)), (b, .inr (6, [.ref qk2, .ref qp2, .int (nI 0), .int (bz false), .int (bz false)])), (qk2, .inl (cB, 3000, .inl K2)), (qp2, .inl (cI, 18000, .inl P2))] := hD
  refine W.eq (g2 := F0 m 7 ls []) rfl ?_
  refine lv_iconst (v := 0) hx hb d_M_reverse_7 (by decide) ?_
  refine lv_istore_n (lv' := [(1, .int 0), (0, .ref hm)]) hx hb d_M_reverse_8 rfl hl (by decide) rfl (fun ls hl => ?_)
  have L_9 : ∀ (n_ : Nat) (i : Nat) (mm : Nat) (n2 : Nat) (K2 : Nat → Int32) (P2 : Nat → Int32) (fu2 : Bool) (fa2 : Bool), n - i < n_ → (i ≤ n) → (i < n → K i = 0) → (n - i ≤ mm) → (n2 ≤ 3000) → (revF (gp (lst n K P)) n mm i (lst n2 K2 P2, fu2, fa2) = revF (gp (lst n K P)) n n 0 ([], false, false)) → ∀ (H : Heap) (locs : List Loc) (ls : Array Slot), va_P D cl [(hm, .inr (1, [.ref a, .ref b, .ref qa, .ref qu, .ref qb, .ref qh, .ref qm])), (a, .inr (6, [.ref qk, .ref qp, .int (nI n), .int (bz fu), .int (bz fa)])), (qk, .inl (cB, 3000, .inl K)), (qp, .inl (cI, 18000, .inl P)), (b, .inr (6, [.ref qk2, .ref qp2, .int (nI n2), .int (bz fu2), .int (bz fa2)])), (qk2, .inl (cB, 3000, .inl K2)), (qp2, .inl (cI, 18000, .inl P2))] H → va_D A [(hm, .inr (1, [.ref a, .ref b, .ref qa, .ref qu, .ref qb, .ref qh, .ref qm])), (a, .inr (6, [.ref qk, .ref qp, .int (nI n), .int (bz fu), .int (bz fa)])), (qk, .inl (cB, 3000, .inl K)), (qp, .inl (cI, 18000, .inl P)), (b, .inr (6, [.ref qk2, .ref qp2, .int (nI n2), .int (bz fu2), .int (bz fa2)])), (qk2, .inl (cB, 3000, .inl K2)), (qp2, .inl (cI, 18000, .inl P2))] → va_S A s.heap H locs → lv_has ls 3 [(0, .ref hm), (1, .int (nI i))] → W p l e R s m args below meth c H locs (0) (0) Q (F0 m 9 ls []) := by
    intro n_
    induction n_ with
    | zero => intro i mm n2 K2 P2 fu2 fa2 hm_; exact absurd hm_ (Nat.not_lt_zero _)
    | succ n_ ih_9 =>
      intro i mm n2 K2 P2 fu2 fa2 hm_ hi hK0 hmm hn2 hR H locs ls hP hD hS hl
      refine lv_iload_n hx hb d_M_reverse_9 rfl (lv_at hl 1 rfl) ?_
      refine lv_aload_n hx hb d_M_reverse_10 rfl (lv_at hl 0 rfl) ?_
      refine va_get (D := D) (ci := 1) (v := .ref a) (C := R_M) (T := T_M) (N := 7) hx hb hts (ui_M _) hown hK hP 0 rfl rfl 0 (by decide) (hts _ (gwc gw_509)) (fun _ h9 => h9) rfl d_M_reverse_11 ?_
      refine va_getN (D := D) (ci := 6) (v := .int (nI n)) (C := R_MPath) (T := T_MPath) (N := 5) hx hb hts (ui_MPath _) hown hK hP 1 rfl rfl 2 (by decide) ((amb_nw_10 hM).use rfl) (fun _ h9 => h9) rfl d_M_reverse_14 ?_
      refine bn_ge (a1 := i) (b1 := n) (tgt := 64) hx hb (by omega) (by omega) d_M_reverse_17 (by decide) (fun c_2 => ?_) (fun c_2 => ?_)
      · skip
        have hfin : (lst n2 K2 P2, fu2, fa2) = revF (gp (lst n K P)) (lst n K P).length (lst n K P).length 0 ([], false, false) := by rw [lst_len, ← hR, rev_end c_2]
        refine lv_aload_n hx hb d_M_reverse_64 rfl (lv_at hl 0 rfl) ?_
        refine ct_callV (ci := 1) (q0 := 0) (As := []) (rest := []) (wr := []) (n := 0) (c_M_settle l D cI cB cJ qQ  hm a b qa qu qb qh qm qk qp n K P fu fa qk2 qp2 n2 K2 P2 fu2 fa2 ) hx hb hml hown hts (amb_ok qQ) hK hP hD hS hA hM (gi_V gw_573 gw_575 gw_18 gw_33 gw_576) rfl (by decide +kernel) ⟨by omega, by omega⟩ [0, 1, 2, 3, 4, 5, 6] [] rfl rfl rfl rfl (by decide) rfl rfl rfl hl.1 rfl (Nat.le_of_ble_eq_true rfl) d_M_reverse_65 ⟨by omega, by omega⟩ (fun u_3 H locs hok hP hD hS => ?_)
        obtain ⟨r_4, a'_5, b'_6⟩ := u_3
        have hok_7 : ((fa2 = true) ∧ (-4) = r_4 ∧ a = a'_5 ∧ b = b'_6) ∨ ((fa2 = false) ∧ (fu2 = true) ∧ (-3) = r_4 ∧ a = a'_5 ∧ b = b'_6) ∨ ((fa2 = false) ∧ (fu2 = false) ∧ nI n2 = r_4 ∧ b = a'_5 ∧ a = b'_6) := hok
        rcases hok_7 with ⟨h_8, rfl, rfl, rfl⟩ | ⟨h_9, h_10, rfl, rfl, rfl⟩ | ⟨h_11, h_12, rfl, rfl, rfl⟩
        · skip
          have hP : va_P D cl [(hm, .inr (1, [.ref a, .ref b, .ref qa, .ref qu, .ref qb, .ref qh, .ref qm])), (a, .inr (6, [.ref qk, .ref qp, .int (nI n), .int (bz fu), .int (bz fa)])), (qk, .inl (cB, 3000, .inl K)), (qp, .inl (cI, 18000, .inl P)), (b, .inr (6, [.ref qk2, .ref qp2, .int (nI n2), .int (bz fu2), .int (bz fa2)])), (qk2, .inl (cB, 3000, .inl K2)), (qp2, .inl (cI, 18000, .inl P2))] H := hP
          have hD : va_D A [(hm, .inr (1, [.ref a, .ref b, .ref qa, .ref qu, .ref qb, .ref qh, .ref qm])), (a, .inr (6, [.ref qk, .ref qp, .int (nI n), .int (bz fu), .int (bz fa)])), (qk, .inl (cB, 3000, .inl K)), (qp, .inl (cI, 18000, .inl P)), (b, .inr (6, [.ref qk2, .ref qp2, .int (nI n2), .int (bz fu2), .int (bz fa2)])), (qk2, .inl (cB, 3000, .inl K2)), (qp2, .inl (cI, 18000, .inl P2))] := hD
          refine W.eq (g2 := F0 m 68 ls [.int (-4)]) rfl ?_
          exact ct_reti hQ hx hb hr hlocks hP hD hS ((-4), a, b, qk, qp, n, K, P, fu, fa, qk2, qp2, n2, K2, P2, fu2, fa2) [(hm, .inr (1, [.ref a, .ref b, .ref qa, .ref qu, .ref qb, .ref qh, .ref qm])), (a, .inr (6, [.ref qk, .ref qp, .int (nI n), .int (bz fu), .int (bz fa)])), (qk, .inl (cB, 3000, .inl K)), (qp, .inl (cI, 18000, .inl P)), (b, .inr (6, [.ref qk2, .ref qp2, .int (nI n2), .int (bz fu2), .int (bz fa2)])), (qk2, .inl (cB, 3000, .inl K2)), (qp2, .inl (cI, 18000, .inl P2))] [0, 1, 2, 3, 4, 5, 6] (rfl) (⟨hn, by unfold rReverse; rw [setl_far hfin h_8]⟩) (rfl) rfl rfl (by omega) (by omega) d_M_reverse_68
        · skip
          have hP : va_P D cl [(hm, .inr (1, [.ref a, .ref b, .ref qa, .ref qu, .ref qb, .ref qh, .ref qm])), (a, .inr (6, [.ref qk, .ref qp, .int (nI n), .int (bz fu), .int (bz fa)])), (qk, .inl (cB, 3000, .inl K)), (qp, .inl (cI, 18000, .inl P)), (b, .inr (6, [.ref qk2, .ref qp2, .int (nI n2), .int (bz fu2), .int (bz fa2)])), (qk2, .inl (cB, 3000, .inl K2)), (qp2, .inl (cI, 18000, .inl P2))] H := hP
          have hD : va_D A [(hm, .inr (1, [.ref a, .ref b, .ref qa, .ref qu, .ref qb, .ref qh, .ref qm])), (a, .inr (6, [.ref qk, .ref qp, .int (nI n), .int (bz fu), .int (bz fa)])), (qk, .inl (cB, 3000, .inl K)), (qp, .inl (cI, 18000, .inl P)), (b, .inr (6, [.ref qk2, .ref qp2, .int (nI n2), .int (bz fu2), .int (bz fa2)])), (qk2, .inl (cB, 3000, .inl K2)), (qp2, .inl (cI, 18000, .inl P2))] := hD
          refine W.eq (g2 := F0 m 68 ls [.int (-3)]) rfl ?_
          exact ct_reti hQ hx hb hr hlocks hP hD hS ((-3), a, b, qk, qp, n, K, P, fu, fa, qk2, qp2, n2, K2, P2, fu2, fa2) [(hm, .inr (1, [.ref a, .ref b, .ref qa, .ref qu, .ref qb, .ref qh, .ref qm])), (a, .inr (6, [.ref qk, .ref qp, .int (nI n), .int (bz fu), .int (bz fa)])), (qk, .inl (cB, 3000, .inl K)), (qp, .inl (cI, 18000, .inl P)), (b, .inr (6, [.ref qk2, .ref qp2, .int (nI n2), .int (bz fu2), .int (bz fa2)])), (qk2, .inl (cB, 3000, .inl K2)), (qp2, .inl (cI, 18000, .inl P2))] [0, 1, 2, 3, 4, 5, 6] (rfl) (⟨hn, by unfold rReverse; rw [setl_full hfin h_9 h_10]⟩) (rfl) rfl rfl (by omega) (by omega) d_M_reverse_68
        · skip
          have hP : va_P D cl [(hm, .inr (1, [.ref b, .ref a, .ref qa, .ref qu, .ref qb, .ref qh, .ref qm])), (a, .inr (6, [.ref qk, .ref qp, .int (nI n), .int (bz fu), .int (bz fa)])), (qk, .inl (cB, 3000, .inl K)), (qp, .inl (cI, 18000, .inl P)), (b, .inr (6, [.ref qk2, .ref qp2, .int (nI n2), .int (bz fu2), .int (bz fa2)])), (qk2, .inl (cB, 3000, .inl K2)), (qp2, .inl (cI, 18000, .inl P2))] H := hP
          have hD : va_D A [(hm, .inr (1, [.ref b, .ref a, .ref qa, .ref qu, .ref qb, .ref qh, .ref qm])), (a, .inr (6, [.ref qk, .ref qp, .int (nI n), .int (bz fu), .int (bz fa)])), (qk, .inl (cB, 3000, .inl K)), (qp, .inl (cI, 18000, .inl P)), (b, .inr (6, [.ref qk2, .ref qp2, .int (nI n2), .int (bz fu2), .int (bz fa2)])), (qk2, .inl (cB, 3000, .inl K2)), (qp2, .inl (cI, 18000, .inl P2))] := hD
          refine W.eq (g2 := F0 m 68 ls [.int (nI n2)]) rfl ?_
          exact ct_reti hQ hx hb hr hlocks hP hD hS ((nI n2), b, a, qk2, qp2, n2, K2, P2, fu2, fa2, qk, qp, n, K, P, fu, fa) [(hm, .inr (1, [.ref b, .ref a, .ref qa, .ref qu, .ref qb, .ref qh, .ref qm])), (b, .inr (6, [.ref qk2, .ref qp2, .int (nI n2), .int (bz fu2), .int (bz fa2)])), (qk2, .inl (cB, 3000, .inl K2)), (qp2, .inl (cI, 18000, .inl P2)), (a, .inr (6, [.ref qk, .ref qp, .int (nI n), .int (bz fu), .int (bz fa)])), (qk, .inl (cB, 3000, .inl K)), (qp, .inl (cI, 18000, .inl P))] [0, 4, 5, 6, 1, 2, 3] (rfl) (⟨hn2, by unfold rReverse; rw [setl_ok hfin h_11 h_12, lst_len]⟩) (rfl) rfl rfl (by omega) (by omega) d_M_reverse_68
      · skip
        refine lv_iload_n hx hb d_M_reverse_20 rfl (lv_at hl 1 rfl) ?_
        refine lv_iconst (v := 1) hx hb d_M_reverse_21 (by decide) ?_
        refine lv_iadd hx hb d_M_reverse_22 ?_
        refine tp_i (nI (i + 1)) (nI_add _ _) ?_
        refine lv_istore_n (lv' := [(2, .int (nI (i + 1))), (0, .ref hm), (1, .int (nI i))]) hx hb d_M_reverse_23 rfl hl (by decide) rfl (fun ls hl => ?_)
        have L_24 : ∀ (n_ : Nat) (j : Nat), n - j < n_ → (i < j) → (j ≤ n) → (nxF (gp (lst n K P)) n (n - (i + 1)) (i + 1) = nxF (gp (lst n K P)) n (n - j) j) → (∀ q, i < q → q < j → ¬ K q = 0) → ∀ (H : Heap) (locs : List Loc) (ls : Array Slot), va_P D cl [(hm, .inr (1, [.ref a, .ref b, .ref qa, .ref qu, .ref qb, .ref qh, .ref qm])), (a, .inr (6, [.ref qk, .ref qp, .int (nI n), .int (bz fu), .int (bz fa)])), (qk, .inl (cB, 3000, .inl K)), (qp, .inl (cI, 18000, .inl P)), (b, .inr (6, [.ref qk2, .ref qp2, .int (nI n2), .int (bz fu2), .int (bz fa2)])), (qk2, .inl (cB, 3000, .inl K2)), (qp2, .inl (cI, 18000, .inl P2))] H → va_D A [(hm, .inr (1, [.ref a, .ref b, .ref qa, .ref qu, .ref qb, .ref qh, .ref qm])), (a, .inr (6, [.ref qk, .ref qp, .int (nI n), .int (bz fu), .int (bz fa)])), (qk, .inl (cB, 3000, .inl K)), (qp, .inl (cI, 18000, .inl P)), (b, .inr (6, [.ref qk2, .ref qp2, .int (nI n2), .int (bz fu2), .int (bz fa2)])), (qk2, .inl (cB, 3000, .inl K2)), (qp2, .inl (cI, 18000, .inl P2))] → va_S A s.heap H locs → lv_has ls 3 [(0, .ref hm), (1, .int (nI i)), (2, .int (nI j))] → W p l e R s m args below meth c H locs (0) (0) Q (F0 m 24 ls []) := by
          intro n_
          induction n_ with
          | zero => intro j hm_; exact absurd hm_ (Nat.not_lt_zero _)
          | succ n_ ih_24 =>
            intro j hm_ hij hjn hnj hnz H locs ls hP hD hS hl
            refine lv_iload_n hx hb d_M_reverse_24 rfl (lv_at hl 2 rfl) ?_
            refine lv_aload_n hx hb d_M_reverse_25 rfl (lv_at hl 0 rfl) ?_
            refine va_get (D := D) (ci := 1) (v := .ref a) (C := R_M) (T := T_M) (N := 7) hx hb hts (ui_M _) hown hK hP 0 rfl rfl 0 (by decide) (hts _ (gwc gw_509)) (fun _ h9 => h9) rfl d_M_reverse_26 ?_
            refine va_getN (D := D) (ci := 6) (v := .int (nI n)) (C := R_MPath) (T := T_MPath) (N := 5) hx hb hts (ui_MPath _) hown hK hP 1 rfl rfl 2 (by decide) ((amb_nw_10 hM).use rfl) (fun _ h9 => h9) rfl d_M_reverse_29 ?_
            refine bn_ge (a1 := j) (b1 := n) (tgt := 53) hx hb (by omega) (by omega) d_M_reverse_32 (by decide) (fun c_13 => ?_) (fun c_13 => ?_)
            · skip
              have hnx : nxF (gp (lst n K P)) n (n - (i + 1)) (i + 1) = j := by rw [hnj, nx_end c_13]
              have hj0 : j < n → K j = 0 := fun q => absurd q (by omega)
              refine lv_aload_n hx hb d_M_reverse_53 rfl (lv_at hl 0 rfl) ?_
              refine lv_iload_n hx hb d_M_reverse_54 rfl (lv_at hl 1 rfl) ?_
              refine lv_iload_n hx hb d_M_reverse_55 rfl (lv_at hl 2 rfl) ?_
              by_cases hcl : K (j - 1) = 3
              · skip
                refine ct_callV (ci := 1) (q0 := 0) (As := [.int (nI i), .int (nI j)]) (rest := []) (wr := []) (n := 2) (c_M_turn1 l D cI cB cJ qQ  hm a b qa qu qb qh qm qk qp n K P fu fa qk2 qp2 n2 K2 P2 fu2 fa2 i j (hn) (hk) (hn2) (by
      rcases Nat.lt_or_ge j (i + 2) with q | q
      · exfalso
        rw [show j - 1 = i by omega, hK0 c_2] at hcl
        exact absurd hcl (by decide)
      · exact q) (by omega) (hcl)) hx hb hml hown hts (amb_ok qQ) hK hP hD hS hA hM (gi_V gw_675 gw_677 gw_26 gw_33 gw_678) rfl (by decide +kernel) ⟨by omega, by omega⟩ [0, 1, 2, 3, 4, 5, 6] [] rfl rfl rfl rfl (by decide) rfl rfl rfl hl.1 rfl (Nat.le_of_ble_eq_true rfl) d_M_reverse_56 ⟨by omega, by omega⟩ (fun u_14 H locs hok hP hD hS => ?_)
                obtain ⟨n'_15, K'_16, P'_17, fu'_18, fa'_19⟩ := u_14
                have htn : n'_15 ≤ 3000 ∧ (lst n'_15 K'_16 P'_17, fu'_18, fa'_19) = turnD (gp (lst n K P)) (lst n2 K2 P2, fu2, fa2) i j := hok
                have hP : va_P D cl [(hm, .inr (1, [.ref a, .ref b, .ref qa, .ref qu, .ref qb, .ref qh, .ref qm])), (a, .inr (6, [.ref qk, .ref qp, .int (nI n), .int (bz fu), .int (bz fa)])), (qk, .inl (cB, 3000, .inl K)), (qp, .inl (cI, 18000, .inl P)), (b, .inr (6, [.ref qk2, .ref qp2, .int (nI n'_15), .int (bz fu'_18), .int (bz fa'_19)])), (qk2, .inl (cB, 3000, .inl K'_16)), (qp2, .inl (cI, 18000, .inl P'_17))] H := hP
                have hD : va_D A [(hm, .inr (1, [.ref a, .ref b, .ref qa, .ref qu, .ref qb, .ref qh, .ref qm])), (a, .inr (6, [.ref qk, .ref qp, .int (nI n), .int (bz fu), .int (bz fa)])), (qk, .inl (cB, 3000, .inl K)), (qp, .inl (cI, 18000, .inl P)), (b, .inr (6, [.ref qk2, .ref qp2, .int (nI n'_15), .int (bz fu'_18), .int (bz fa'_19)])), (qk2, .inl (cB, 3000, .inl K'_16)), (qp2, .inl (cI, 18000, .inl P'_17))] := hD
                refine W.eq (g2 := F0 m 59 ls []) rfl ?_
                refine lv_iload_n hx hb d_M_reverse_59 rfl (lv_at hl 2 rfl) ?_
                refine lv_istore_n (lv' := [(1, .int (nI j)), (0, .ref hm), (2, .int (nI j))]) hx hb d_M_reverse_60 rfl hl (by decide) rfl (fun ls hl => ?_)
                refine lv_goto (tgt := 9) hx hb d_M_reverse_61 (by decide) ?_
                exact ih_9 j (mm - 1) n'_15 K'_16 P'_17 fu'_18 fa'_19 (by omega) (by omega) (hj0) (by omega) (htn.1) (by rw [htn.2, ← rev_go hmm c_2 hnx]; exact hR) _ _ _ hP hD hS (lv_sub hl [1, 0] rfl)
              · skip
                refine ct_callV (ci := 1) (q0 := 0) (As := [.int (nI i), .int (nI j)]) (rest := []) (wr := []) (n := 2) (c_M_turn0 l D cI cB cJ qQ  hm a b qa qu qb qh qm qk qp n K P fu fa qk2 qp2 n2 K2 P2 fu2 fa2 i j (hn) (hk) (hn2) (by omega) (by omega) (hcl)) hx hb hml hown hts (amb_ok qQ) hK hP hD hS hA hM (gi_V gw_675 gw_677 gw_26 gw_33 gw_678) rfl (by decide +kernel) ⟨by omega, by omega⟩ [0, 1, 2, 3, 4, 5, 6] [] rfl rfl rfl rfl (by decide) rfl rfl rfl hl.1 rfl (Nat.le_of_ble_eq_true rfl) d_M_reverse_56 ⟨by omega, by omega⟩ (fun u_20 H locs hok hP hD hS => ?_)
                obtain ⟨n'_21, K'_22, P'_23, fu'_24, fa'_25⟩ := u_20
                have htn : n'_21 ≤ 3000 ∧ (lst n'_21 K'_22 P'_23, fu'_24, fa'_25) = turnD (gp (lst n K P)) (lst n2 K2 P2, fu2, fa2) i j := hok
                have hP : va_P D cl [(hm, .inr (1, [.ref a, .ref b, .ref qa, .ref qu, .ref qb, .ref qh, .ref qm])), (a, .inr (6, [.ref qk, .ref qp, .int (nI n), .int (bz fu), .int (bz fa)])), (qk, .inl (cB, 3000, .inl K)), (qp, .inl (cI, 18000, .inl P)), (b, .inr (6, [.ref qk2, .ref qp2, .int (nI n'_21), .int (bz fu'_24), .int (bz fa'_25)])), (qk2, .inl (cB, 3000, .inl K'_22)), (qp2, .inl (cI, 18000, .inl P'_23))] H := hP
                have hD : va_D A [(hm, .inr (1, [.ref a, .ref b, .ref qa, .ref qu, .ref qb, .ref qh, .ref qm])), (a, .inr (6, [.ref qk, .ref qp, .int (nI n), .int (bz fu), .int (bz fa)])), (qk, .inl (cB, 3000, .inl K)), (qp, .inl (cI, 18000, .inl P)), (b, .inr (6, [.ref qk2, .ref qp2, .int (nI n'_21), .int (bz fu'_24), .int (bz fa'_25)])), (qk2, .inl (cB, 3000, .inl K'_22)), (qp2, .inl (cI, 18000, .inl P'_23))] := hD
                refine W.eq (g2 := F0 m 59 ls []) rfl ?_
                refine lv_iload_n hx hb d_M_reverse_59 rfl (lv_at hl 2 rfl) ?_
                refine lv_istore_n (lv' := [(1, .int (nI j)), (0, .ref hm), (2, .int (nI j))]) hx hb d_M_reverse_60 rfl hl (by decide) rfl (fun ls hl => ?_)
                refine lv_goto (tgt := 9) hx hb d_M_reverse_61 (by decide) ?_
                exact ih_9 j (mm - 1) n'_21 K'_22 P'_23 fu'_24 fa'_25 (by omega) (by omega) (hj0) (by omega) (htn.1) (by rw [htn.2, ← rev_go hmm c_2 hnx]; exact hR) _ _ _ hP hD hS (lv_sub hl [1, 0] rfl)
            · skip
              refine lv_aload_n hx hb d_M_reverse_35 rfl (lv_at hl 0 rfl) ?_
              refine va_get (D := D) (ci := 1) (v := .ref a) (C := R_M) (T := T_M) (N := 7) hx hb hts (ui_M _) hown hK hP 0 rfl rfl 0 (by decide) (hts _ (gwc gw_509)) (fun _ h9 => h9) rfl d_M_reverse_36 ?_
              refine va_getN (D := D) (ci := 6) (v := .ref qk) (C := R_MPath) (T := T_MPath) (N := 5) hx hb hts (ui_MPath _) hown hK hP 1 rfl rfl 0 (by decide) ((amb_nw_9 hM).use rfl) (fun _ h9 => h9) rfl d_M_reverse_39 ?_
              refine lv_iload_n hx hb d_M_reverse_42 rfl (lv_at hl 2 rfl) ?_
              refine ld_b hx hb hK hP 2 1 rfl rfl j (by omega) (by omega) d_M_reverse_43 ?_
              refine lv_if_eq (tgt := 53) hx hb d_M_reverse_44 (by decide) (fun c_26 => ?_) (fun c_26 => ?_)
              · skip
                have hnx : nxF (gp (lst n K P)) n (n - (i + 1)) (i + 1) = j := by rw [hnj, nx_0 c_13 c_26]
                have hj0 : j < n → K j = 0 := fun _ => c_26
                refine lv_aload_n hx hb d_M_reverse_53 rfl (lv_at hl 0 rfl) ?_
                refine lv_iload_n hx hb d_M_reverse_54 rfl (lv_at hl 1 rfl) ?_
                refine lv_iload_n hx hb d_M_reverse_55 rfl (lv_at hl 2 rfl) ?_
                by_cases hcl : K (j - 1) = 3
                · skip
                  refine ct_callV (ci := 1) (q0 := 0) (As := [.int (nI i), .int (nI j)]) (rest := []) (wr := []) (n := 2) (c_M_turn1 l D cI cB cJ qQ  hm a b qa qu qb qh qm qk qp n K P fu fa qk2 qp2 n2 K2 P2 fu2 fa2 i j (hn) (hk) (hn2) (by
      rcases Nat.lt_or_ge j (i + 2) with q | q
      · exfalso
        rw [show j - 1 = i by omega, hK0 c_2] at hcl
        exact absurd hcl (by decide)
      · exact q) (by omega) (hcl)) hx hb hml hown hts (amb_ok qQ) hK hP hD hS hA hM (gi_V gw_675 gw_677 gw_26 gw_33 gw_678) rfl (by decide +kernel) ⟨by omega, by omega⟩ [0, 1, 2, 3, 4, 5, 6] [] rfl rfl rfl rfl (by decide) rfl rfl rfl hl.1 rfl (Nat.le_of_ble_eq_true rfl) d_M_reverse_56 ⟨by omega, by omega⟩ (fun u_27 H locs hok hP hD hS => ?_)
                  obtain ⟨n'_28, K'_29, P'_30, fu'_31, fa'_32⟩ := u_27
                  have htn : n'_28 ≤ 3000 ∧ (lst n'_28 K'_29 P'_30, fu'_31, fa'_32) = turnD (gp (lst n K P)) (lst n2 K2 P2, fu2, fa2) i j := hok
                  have hP : va_P D cl [(hm, .inr (1, [.ref a, .ref b, .ref qa, .ref qu, .ref qb, .ref qh, .ref qm])), (a, .inr (6, [.ref qk, .ref qp, .int (nI n), .int (bz fu), .int (bz fa)])), (qk, .inl (cB, 3000, .inl K)), (qp, .inl (cI, 18000, .inl P)), (b, .inr (6, [.ref qk2, .ref qp2, .int (nI n'_28), .int (bz fu'_31), .int (bz fa'_32)])), (qk2, .inl (cB, 3000, .inl K'_29)), (qp2, .inl (cI, 18000, .inl P'_30))] H := hP
                  have hD : va_D A [(hm, .inr (1, [.ref a, .ref b, .ref qa, .ref qu, .ref qb, .ref qh, .ref qm])), (a, .inr (6, [.ref qk, .ref qp, .int (nI n), .int (bz fu), .int (bz fa)])), (qk, .inl (cB, 3000, .inl K)), (qp, .inl (cI, 18000, .inl P)), (b, .inr (6, [.ref qk2, .ref qp2, .int (nI n'_28), .int (bz fu'_31), .int (bz fa'_32)])), (qk2, .inl (cB, 3000, .inl K'_29)), (qp2, .inl (cI, 18000, .inl P'_30))] := hD
                  refine W.eq (g2 := F0 m 59 ls []) rfl ?_
                  refine lv_iload_n hx hb d_M_reverse_59 rfl (lv_at hl 2 rfl) ?_
                  refine lv_istore_n (lv' := [(1, .int (nI j)), (0, .ref hm), (2, .int (nI j))]) hx hb d_M_reverse_60 rfl hl (by decide) rfl (fun ls hl => ?_)
                  refine lv_goto (tgt := 9) hx hb d_M_reverse_61 (by decide) ?_
                  exact ih_9 j (mm - 1) n'_28 K'_29 P'_30 fu'_31 fa'_32 (by omega) (by omega) (hj0) (by omega) (htn.1) (by rw [htn.2, ← rev_go hmm c_2 hnx]; exact hR) _ _ _ hP hD hS (lv_sub hl [1, 0] rfl)
                · skip
                  refine ct_callV (ci := 1) (q0 := 0) (As := [.int (nI i), .int (nI j)]) (rest := []) (wr := []) (n := 2) (c_M_turn0 l D cI cB cJ qQ  hm a b qa qu qb qh qm qk qp n K P fu fa qk2 qp2 n2 K2 P2 fu2 fa2 i j (hn) (hk) (hn2) (by omega) (by omega) (hcl)) hx hb hml hown hts (amb_ok qQ) hK hP hD hS hA hM (gi_V gw_675 gw_677 gw_26 gw_33 gw_678) rfl (by decide +kernel) ⟨by omega, by omega⟩ [0, 1, 2, 3, 4, 5, 6] [] rfl rfl rfl rfl (by decide) rfl rfl rfl hl.1 rfl (Nat.le_of_ble_eq_true rfl) d_M_reverse_56 ⟨by omega, by omega⟩ (fun u_33 H locs hok hP hD hS => ?_)
                  obtain ⟨n'_34, K'_35, P'_36, fu'_37, fa'_38⟩ := u_33
                  have htn : n'_34 ≤ 3000 ∧ (lst n'_34 K'_35 P'_36, fu'_37, fa'_38) = turnD (gp (lst n K P)) (lst n2 K2 P2, fu2, fa2) i j := hok
                  have hP : va_P D cl [(hm, .inr (1, [.ref a, .ref b, .ref qa, .ref qu, .ref qb, .ref qh, .ref qm])), (a, .inr (6, [.ref qk, .ref qp, .int (nI n), .int (bz fu), .int (bz fa)])), (qk, .inl (cB, 3000, .inl K)), (qp, .inl (cI, 18000, .inl P)), (b, .inr (6, [.ref qk2, .ref qp2, .int (nI n'_34), .int (bz fu'_37), .int (bz fa'_38)])), (qk2, .inl (cB, 3000, .inl K'_35)), (qp2, .inl (cI, 18000, .inl P'_36))] H := hP
                  have hD : va_D A [(hm, .inr (1, [.ref a, .ref b, .ref qa, .ref qu, .ref qb, .ref qh, .ref qm])), (a, .inr (6, [.ref qk, .ref qp, .int (nI n), .int (bz fu), .int (bz fa)])), (qk, .inl (cB, 3000, .inl K)), (qp, .inl (cI, 18000, .inl P)), (b, .inr (6, [.ref qk2, .ref qp2, .int (nI n'_34), .int (bz fu'_37), .int (bz fa'_38)])), (qk2, .inl (cB, 3000, .inl K'_35)), (qp2, .inl (cI, 18000, .inl P'_36))] := hD
                  refine W.eq (g2 := F0 m 59 ls []) rfl ?_
                  refine lv_iload_n hx hb d_M_reverse_59 rfl (lv_at hl 2 rfl) ?_
                  refine lv_istore_n (lv' := [(1, .int (nI j)), (0, .ref hm), (2, .int (nI j))]) hx hb d_M_reverse_60 rfl hl (by decide) rfl (fun ls hl => ?_)
                  refine lv_goto (tgt := 9) hx hb d_M_reverse_61 (by decide) ?_
                  exact ih_9 j (mm - 1) n'_34 K'_35 P'_36 fu'_37 fa'_38 (by omega) (by omega) (hj0) (by omega) (htn.1) (by rw [htn.2, ← rev_go hmm c_2 hnx]; exact hR) _ _ _ hP hD hS (lv_sub hl [1, 0] rfl)
              · skip
                refine lv_iinc (v := nI (j + 1)) (lv' := [(2, .int (nI (j + 1))), (0, .ref hm), (1, .int (nI i))]) hx hb d_M_reverse_47 hl (k := 2) rfl (by first | exact nI_add _ 1 | rfl | decide) (by decide) rfl (fun ls hl => ?_)
                refine lv_goto (tgt := 24) hx hb d_M_reverse_50 (by decide) ?_
                exact ih_24 (j + 1) (by omega) (by omega) (by omega) (by rw [hnj, nx_go c_13 c_26]) (fun q h1 h2 => by
      by_cases h9 : q = j
      · rw [h9]; exact c_26
      · exact hnz q h1 (by omega)) _ _ _ hP hD hS (lv_sub hl [1, 2, 0] rfl)
        exact L_24 ((n - (i + 1)) + 1) (i + 1) (Nat.lt_succ_self _) (by omega) (by omega) (rfl) (fun q h1 h2 => absurd h1 (by omega)) _ _ _ hP hD hS (lv_sub hl [1, 2, 0] rfl)
  exact L_9 ((n - 0) + 1) 0 n 0 K2 P2 false false (Nat.lt_succ_self _) (by omega) (h0) (by omega) (by omega) (rfl) _ _ _ hP hD hS (lv_sub hl [1, 0] rfl)
