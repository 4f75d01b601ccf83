/-! CONTRACTS OF ONE SHAPE: a method with the words w, the arguments av and the cells w0 answers 'rv u' and leaves the cells 'w1 u', for some u with 'ok u'; AM is what is known of the tables and of cells that nobody writes -/
def ctQ {S : Type} (D : va_G) (cl : List vw_C) (ok : S → Prop) (rv : S → Option Value) (w1 : S → va_W) (A : Nat → Prop) : Array Value → State → Outcome → State → Prop := fun _ st oc t => (∃ u : S, oc = .returned (rv u) ∧ ok u ∧ va_P D cl (w1 u) t.heap ∧ va_D A (w1 u)) ∧ va_F A st t
def ctP (D : va_G) (cl : List vw_C) (tys : List (ClassId × FieldType)) (AM : (Nat → Prop) → State → Heap → Prop) (av : List Value) (w0 : va_W) (sz : Nat) : Array Value → State → Prop := va_Pc av (fun U => U.heap.size = sz ∧ va_P D cl w0 U.heap ∧ va_K D cl tys U ∧ va_D (fun _ => True) w0 ∧ AM (va_A w0 sz) U U.heap)
def ctA (AM : (Nat → Prop) → State → Heap → Prop) : Prop := (∀ (A : Nat → Prop) (u U : State) (H : Heap), u.WarmedH U.vm → AM A u H → AM A U H) ∧ (∀ (A : Nat → Prop) (U : State) (H H1 : Heap), (∀ a : Nat, a < H.size → ¬ A a → H1[a]? = H[a]?) → AM A U H → AM A U H1) ∧ (∀ (A B : Nat → Prop) (U : State) (H : Heap), (∀ q, B q → A q) → AM A U H → AM B U H)
def ct (l : Launch) (D : va_G) (cl : List vw_C) (tys : List (ClassId × FieldType)) (AM : (Nat → Prop) → State → Heap → Prop) (y : MethodName) (w : List Cond) (fr lo mc ms : Nat) (av : List Value) (w0 : va_W) {S : Type} (ok : S → Prop) (rv : S → Option Value) (w1 : S → va_W) : Prop := ∀ sz : Nat, Met l y w { frames := fr, cells := mc, slots := ms, locals := lo } (ctP D cl tys AM av w0 sz) (ctQ D cl ok rv w1 (va_A w0 sz)) mc ms (va_A w0 sz)
section CTA
variable {l : Launch} {D : va_G} {cl : List vw_C} {tys : List (ClassId × FieldType)} {AM : (Nat → Prop) → State → Heap → Prop} {y : MethodName} {w w' : List Cond} {fr lo mc ms : Nat} {av : List Value} {w0 : va_W} {S : Type} {ok : S → Prop} {rv : S → Option Value} {w1 : S → va_W}
theorem ct_ofW {cc : ByteArray} {maxL : Nat} {ret : Option FieldType} (hy : plainName y.cls = true) (hw : w = Cond.code y cc maxL ret :: w') (hle : (lg_sl av).length ≤ maxL)
    (body : ∀ (p : Program) (e : Env) (R : Room) (s : State) (m : MethodId) (args : Array Value) (below : List Frame) (meth : Method) (c : Code) (A : Nat → Prop) (Q : State → Prop) (ls : Array Slot), p.tables.exec = Jvm.exec → c.code = cc → meth.sig.returnType = ret → c.maxLocals = maxL → (∀ q ∈ w, q.before args s = true) → s.vm.findClass y.cls = some m.cls → meth.locks = false → meth.name = y.name → R.frames = fr → R.cells = mc → R.slots = ms → R.locals = lo → Q = MQ below (ctQ D cl ok rv w1 A) args s mc ms A → va_K D cl tys s → va_P D cl w0 s.heap → va_D A w0 → va_S A s.heap s.heap [] → (∀ q : Nat, s.heap.size ≤ q → A q) → AM A s s.heap → lv_has ls maxL (lv_args 0 av) →
      W p l e R s m args below meth c s.heap [] 0 0 Q (F0 m 0 ls [])) : ct l D cl tys AM y w fr lo mc ms av w0 ok rv w1 := by
  intro sz
  refine Met.ofW (cc := cc) (maxL := maxL) (ret := ret) hy hw ?_
  intro p e s m args below meth c s₁ B hml hv
  obtain ⟨ha, hsz, hP, hK, hD0, hM⟩ := hv
  subst hsz
  have hl := lv_entry av (n := maxL) hle
  rw [show entryFrame m args maxL = entryFrame m av.toArray maxL from by rw [ha], lg_entry_eq]
  exact body p e _ s m args below meth c _ _ _ B.exec B.bytes B.returns hml (atoms_spec (ws := w) B.pre) (findClass_of_methodNamed B.named) B.notSynchronized (name_of_methodNamed B.named B.method).1 rfl rfl rfl rfl rfl hK hP hD0.self va_S.rf (fun q h => Or.inr h) hM hl
end CTA
theorem ct_sub {ws ws' : va_W} (is : List Nat) (h : is.map (fun i => ws[i]?) = ws'.map some) : is.filterMap (fun i => ws[i]?) = ws' := by
  induction is generalizing ws' with
  | nil => cases ws' with
    | nil => rfl
    | cons a r => cases h
  | cons i is ih => cases ws' with
    | nil => cases h
    | cons a r =>
      simp only [List.map_cons, List.cons.injEq] at h
      rw [List.filterMap_cons, h.1, ih h.2]
section CTB
variable {p : Program} {l : Launch} {e : Env} {R : Room} {s : State} {m : MethodId} {args : Array Value} {below : List Frame} {meth : Method} {c : Code} {H : Heap} {locs : List Loc} {cells slots : Nat} {Q : State → Prop}
variable {cc : ByteArray} {pc : Nat} {ls : Array Slot} {rest st : List Value} {D : va_G} {cl : List vw_C} {A : Nat → Prop} {tys : List (ClassId × FieldType)} {ws : va_W}
variable {AM : (Nat → Prop) → State → Heap → Prop} {S : Type} {ok : S → Prop} {rv : S → Option Value} {w1 : S → va_W} {mc ms : Nat}
/-- the end of a method: what it answers and the cells that it leaves, picked out of the world -/
theorem ct_reti {v : Int32} (hQ : Q = MQ below (ctQ D cl ok rv w1 A) args s mc ms A) (hx : p.tables.exec = Jvm.exec) (hb : c.code = cc) (hr : meth.sig.returnType = some .int) (hlocks : meth.locks = false) (hP : va_P D cl ws H) (hD : va_D A ws) (hS : va_S A s.heap H locs) (u : S) (w9 : va_W) (is : List Nat) (hv : rv u = some (.int v)) (hok : ok u) (he : w1 u = w9) (hi : is.map (fun i => ws[i]?) = w9.map some) (hn : va_nd is = true) (hc : cells ≤ mc) (hs : slots ≤ ms) (hdg : decode cc pc = .ok (.ireturn, 1)) : W p l e R s m args below meth c H locs cells slots Q (F0 m pc ls [.int v]) := by
  subst hQ
  exact W.widen hc hs (W.iret (v := v) hx hb hr (fun _ ht _ => ⟨⟨u, by rw [hv], hok, by rw [ht, he]; exact hP.sub is (ct_sub is hi), by rw [he]; exact hD.sub is hn hi⟩, hS.F ht⟩) hS.2.2 hdg hlocks)
theorem ct_retz {v : Int32} (hQ : Q = MQ below (ctQ D cl ok rv w1 A) args s mc ms A) (hx : p.tables.exec = Jvm.exec) (hb : c.code = cc) (hr : meth.sig.returnType = some .boolean) (hlocks : meth.locks = false) (hP : va_P D cl ws H) (hD : va_D A ws) (hS : va_S A s.heap H locs) (u : S) (w9 : va_W) (is : List Nat) (hv : rv u = some (.int v)) (hok : ok u) (he : w1 u = w9) (hi : is.map (fun i => ws[i]?) = w9.map some) (hn : va_nd is = true) (hz : narrow .boolean (.int v) = .int v) (hc : cells ≤ mc) (hs : slots ≤ ms) (hdg : decode cc pc = .ok (.ireturn, 1)) : W p l e R s m args below meth c H locs cells slots Q (F0 m pc ls [.int v]) := by
  subst hQ
  exact W.widen hc hs (W.zret (v := v) hx hb hr hz (fun _ ht _ => ⟨⟨u, by rw [hv], hok, by rw [ht, he]; exact hP.sub is (ct_sub is hi), by rw [he]; exact hD.sub is hn hi⟩, hS.F ht⟩) hS.2.2 hdg hlocks)
theorem ct_retl {v : Int64} (hQ : Q = MQ below (ctQ D cl ok rv w1 A) args s mc ms A) (hx : p.tables.exec = Jvm.exec) (hb : c.code = cc) (hr : meth.sig.returnType = some .long) (hlocks : meth.locks = false) (hP : va_P D cl ws H) (hD : va_D A ws) (hS : va_S A s.heap H locs) (u : S) (w9 : va_W) (is : List Nat) (hv : rv u = some (.long v)) (hok : ok u) (he : w1 u = w9) (hi : is.map (fun i => ws[i]?) = w9.map some) (hn : va_nd is = true) (hc : cells ≤ mc) (hs : slots ≤ ms) (hdg : decode cc pc = .ok (.lreturn, 1)) : W p l e R s m args below meth c H locs cells slots Q (F0 m pc ls [.long v]) := by
  subst hQ
  exact W.widen hc hs (W.lret (v := v) hx hb hr (fun _ ht _ => ⟨⟨u, by rw [hv], hok, by rw [ht, he]; exact hP.sub is (ct_sub is hi), by rw [he]; exact hD.sub is hn hi⟩, hS.F ht⟩) hS.2.2 hdg hlocks)
theorem ct_retv (hQ : Q = MQ below (ctQ D cl ok rv w1 A) args s mc ms A) (hx : p.tables.exec = Jvm.exec) (hb : c.code = cc) (hr : meth.sig.returnType = none) (hlocks : meth.locks = false) (hP : va_P D cl ws H) (hD : va_D A ws) (hS : va_S A s.heap H locs) (u : S) (w9 : va_W) (is : List Nat) (hv : rv u = none) (hok : ok u) (he : w1 u = w9) (hi : is.map (fun i => ws[i]?) = w9.map some) (hn : va_nd is = true) (hc : cells ≤ mc) (hs : slots ≤ ms) (hdg : decode cc pc = .ok (.return_, 1)) : W p l e R s m args below meth c H locs cells slots Q (F0 m pc ls []) := by
  subst hQ
  exact W.widen hc hs (W.vret hx hb hr (fun _ ht _ => ⟨⟨u, by rw [hv], hok, by rw [ht, he]; exact hP.sub is (ct_sub is hi), by rw [he]; exact hD.sub is hn hi⟩, hS.F ht⟩) hS.2.2 hdg hlocks)
theorem ct_reta {q : Nat} {rt : FieldType} (hQ : Q = MQ below (ctQ D cl ok rv w1 A) args s mc ms A) (hx : p.tables.exec = Jvm.exec) (hb : c.code = cc) (hr : meth.sig.returnType = some rt) (hrt : (∃ n, rt = .object n) ∨ ∃ t, rt = .array t) (hlocks : meth.locks = false) (hP : va_P D cl ws H) (hD : va_D A ws) (hS : va_S A s.heap H locs) (u : S) (w9 : va_W) (is : List Nat) (hv : rv u = some (.ref q)) (hok : ok u) (he : w1 u = w9) (hi : is.map (fun i => ws[i]?) = w9.map some) (hn : va_nd is = true) (hc : cells ≤ mc) (hs : slots ≤ ms) (hdg : decode cc pc = .ok (.areturn, 1)) : W p l e R s m args below meth c H locs cells slots Q (F0 m pc ls [.ref q]) := by
  subst hQ
  exact W.widen hc hs (W.aret (v := .ref q) hx hb hr hrt (Or.inr ⟨q, rfl⟩) (fun _ ht _ => ⟨⟨u, by rw [hv], hok, by rw [ht, he]; exact hP.sub is (ct_sub is hi), by rw [he]; exact hD.sub is hn hi⟩, hS.F ht⟩) hS.2.2 hdg hlocks)
theorem ctP_blind {av : List Value} {w0 : va_W} {sz : Nat} (hAM : ctA AM) : FrameBlind (ctP D cl tys AM av w0 sz) := by
  intro a U g mk q
  obtain ⟨q0, q1, qP, qK, qD, qM⟩ := q
  exact ⟨q0, q1, qP, va_K.moved (u := U) (U := U.calling g mk a) (Vm.Alike.refl U.vm) qK, qD, hAM.1 _ U (U.calling g mk a) _ (State.WarmedH.refl U) qM⟩
/-- what a caller has to show: the callee's cells stand in its world -/
theorem ctP_at {av : List Value} {w0 : va_W} (hAM : ctA AM) (hK : va_K D cl tys s) (hP : va_P D cl ws H) (hD : va_D A ws) (hS : va_S A s.heap H locs) (hA : ∀ q : Nat, s.heap.size ≤ q → A q) (hM : AM A s s.heap) (isC : List Nat) (hC : isC.map (fun i => ws[i]?) = w0.map some) (hnC : va_nd isC = true) : ∀ U : State, U.heap = H → s.WarmedH U.vm → ctP D cl tys AM av w0 H.size av.toArray U := by
  intro U hU hW
  have hF := va_free hD hS hA isC hC
  refine ⟨rfl, by rw [hU], by rw [hU]; exact hP.sub isC (ct_sub isC hC), va_K.moved hW.alike hK, (hD.sub isC hnC hC).weaken (fun _ _ _ _ => trivial), ?_⟩
  rw [hU]
  exact hAM.2.2 A _ U H hF (hAM.2.1 A U s.heap H (fun a h1 h2 => hS.2.1 a h1 h2) (hAM.1 A s U s.heap hW hM))
/-- behind a call: the answer, and the caller's world with the callee's new cells at its end -/
theorem ct_back {w0 wr : va_W} {a : Array Value} (hP : va_P D cl ws H) (hD : va_D A ws) (hS : va_S A s.heap H locs) (hA : ∀ q : Nat, s.heap.size ≤ q → A q) (isC isR : List Nat) (hC : isC.map (fun i => ws[i]?) = w0.map some) (hR : isR.map (fun i => ws[i]?) = wr.map some) (hnR : va_nd isR = true) (hdis : ∀ i ∈ isR, i ∉ isC)
    (hr : va_Run p l e R s m args below meth c H locs cells slots mc ms (F0 m pc ls st) rest (ctQ D cl ok rv w1 (va_A w0 H.size) a) (va_A w0 H.size))
    (kk : ∀ (u : S) (H1 : Heap) (locs1 : List Loc), ok u → va_P D cl (wr ++ w1 u) H1 → va_D A (wr ++ w1 u) → va_S A s.heap H1 locs1 → W p l e R s m args below meth c H1 locs1 (cells + mc) (slots + ms) Q (F0 m (pc + 3) ls ((rv u).toList ++ rest))) : W p l e R s m args below meth c H locs cells slots Q (F0 m pc ls st) := by
  have hF := va_free hD hS hA isC hC
  intro T hT X
  obtain ⟨v, st₀, t, T', L, h0, X', hL, e1, e2, ⟨⟨u, hv, hp, hb, hd⟩, hz, hk⟩, stp⟩ := hr T hT X
  cases hv
  rw [h0] at hz hk
  obtain ⟨j1, j2⟩ := va_join (H1 := t.heap) (w1 := w1 u) hP hD isC isR hC hR hnR hdis hk hF hb hd
  obtain ⟨t2, a1, b1⟩ := kk u T'.heap (locs ++ L) hp (by rw [e1]; exact j1) j2
    ⟨Nat.le_trans hS.1 (by rw [e1]; exact hz), fun q h1 h2 => by rw [e1, hk q (Nat.lt_of_lt_of_le h1 hS.1) (fun z => h2 (hF q z))]; exact hS.2.1 q h1 h2, fun q hq => by
      rcases List.mem_append.mp hq with h | h
      · exact hS.2.2 q h
      · exact hF _ (hL q h)⟩ T' rfl X'
  exact ⟨t2, stp t2 a1, b1⟩
variable {y : MethodName} {w w' : List Cond} {fr lo : Nat} {av As : List Value} {w0 : va_W} {wr : va_W} {bytes : ByteArray} {maxL nL n index ci q0 N b : Nat} {ret : Option FieldType} {Ts : List Cond} {own C host : String} {T : u_T} {fs : List Value}
/-- invokevirtual -/
theorem ct_callV (hM : ct l D cl tys AM y w fr lo mc ms (.ref b :: As) w0 ok rv w1) (hx : p.tables.exec = Jvm.exec) (hb : c.code = cc) (hml : c.maxLocals = nL) (hown : s.vm.findClass own = some m.cls) (hts : ∀ q ∈ Ts, q.before args s = true) (hAM : ctA AM) (hK : va_K D cl tys s) (hP : va_P D cl ws H) (hD : va_D A ws) (hS : va_S A s.heap H locs) (hA : ∀ q : Nat, s.heap.size ≤ q → A q) (hMM : AM A s s.heap)
    (hG : GoodIn Ts (wsV own index C y w)) (hw : w = Cond.code y bytes maxL ret :: w') (hd : y.cls = C ∧ y.cls ≠ "java/lang/invoke/MethodHandle" ∧ y.cls ≠ "java/lang/invoke/VarHandle" ∧ (parseMethodDescriptor y.desc).map (fun d => d.parameters.length) = some n) (hR : fr + 1 ≤ R.frames ∧ 8 + (maxL + 11) + lo ≤ R.locals)
    (isC isR : List Nat) (hC : isC.map (fun i => ws[i]?) = w0.map some) (hRr : isR.map (fun i => ws[i]?) = wr.map some) (hnC : va_nd isC = true) (hnR : va_nd isR = true) (hdis : ∀ i ∈ isR, i ∉ isC) (hrc : cl[ci]? = some (C, T, N)) (hre : ws[q0]? = some (b, .inr (ci, fs))) (hn : As.length = n) (hsize : ls.size = nL) (hst : st = As.reverse ++ .ref b :: rest) (hW : (rest.map fun v => v.category).sum ≤ 8) (hdg : decode cc pc = .ok (.invokevirtual index, 3)) (hf : cells + mc ≤ R.cells ∧ slots + ms ≤ R.slots)
    (kk : ∀ (u : S) (H1 : Heap) (locs1 : List Loc), ok u → va_P D cl (wr ++ w1 u) H1 → va_D A (wr ++ w1 u) → va_S A s.heap H1 locs1 → W p l e R s m args below meth c H1 locs1 (cells + mc) (slots + ms) Q (F0 m (pc + 3) ls ((rv u).toList ++ rest))) : W p l e R s m args below meth c H locs cells slots Q (F0 m pc ls st) :=
  ct_back hP hD hS hA isC isR hC hRr hnR hdis (va_runV (g := F0 m pc ls st) (As := As) (rest := rest) ⟨hx, hb, hml, hown, hts⟩ (hM H.size) (cwV n hts hG hw rfl rfl hd hR) ⟨ctP_blind hAM, va_recv hK hP hrc hre, ctP_at hAM hK hP hD hS hA hMM isC hC hnC⟩ rfl hn hsize hst (lv_room hW) hdg hf) kk
/-- invokestatic of the own class -/
theorem ct_callS (hM : ct l D cl tys AM y w fr lo mc ms av w0 ok rv w1) (hx : p.tables.exec = Jvm.exec) (hb : c.code = cc) (hml : c.maxLocals = nL) (hown : s.vm.findClass own = some m.cls) (hts : ∀ q ∈ Ts, q.before args s = true) (hAM : ctA AM) (hK : va_K D cl tys s) (hP : va_P D cl ws H) (hD : va_D A ws) (hS : va_S A s.heap H locs) (hA : ∀ q : Nat, s.heap.size ≤ q → A q) (hMM : AM A s s.heap)
    (hG : GoodIn Ts (va_wsS own index y w)) (hw : w = Cond.code y bytes maxL ret :: w') (hd : y.cls ≠ "java/lang/invoke/MethodHandle" ∧ y.cls ≠ "java/lang/invoke/VarHandle" ∧ (parseMethodDescriptor y.desc).map (fun d => d.parameters.length) = some n) (hR : fr + 1 ≤ R.frames ∧ 8 + (maxL + 11) + lo ≤ R.locals)
    (isC isR : List Nat) (hC : isC.map (fun i => ws[i]?) = w0.map some) (hRr : isR.map (fun i => ws[i]?) = wr.map some) (hnC : va_nd isC = true) (hnR : va_nd isR = true) (hdis : ∀ i ∈ isR, i ∉ isC) (hn : av.length = n) (hsize : ls.size = nL) (hst : st = av.reverse ++ rest) (hW : (rest.map fun v => v.category).sum ≤ 8) (hdg : decode cc pc = .ok (.invokestatic index, 3)) (hf : cells + mc ≤ R.cells ∧ slots + ms ≤ R.slots)
    (kk : ∀ (u : S) (H1 : Heap) (locs1 : List Loc), ok u → va_P D cl (wr ++ w1 u) H1 → va_D A (wr ++ w1 u) → va_S A s.heap H1 locs1 → W p l e R s m args below meth c H1 locs1 (cells + mc) (slots + ms) Q (F0 m (pc + 3) ls ((rv u).toList ++ rest))) : W p l e R s m args below meth c H locs cells slots Q (F0 m pc ls st) :=
  ct_back hP hD hS hA isC isR hC hRr hnR hdis (va_runS (g := F0 m pc ls st) (As := av) (rest := rest) ⟨hx, hb, hml, hown, hts⟩ (hM H.size) (va_cwS n hts hG hw rfl rfl hd hR) ⟨ctP_blind hAM, ctP_at hAM hK hP hD hS hA hMM isC hC hnC⟩ rfl hn hsize hst (lv_room hW) hdg hf) kk
/-- invokespecial <init> -/
theorem ct_callI (hM : ct l D cl tys AM y w fr lo mc ms (.ref b :: As) w0 ok rv w1) (hx : p.tables.exec = Jvm.exec) (hb : c.code = cc) (hml : c.maxLocals = nL) (hown : s.vm.findClass own = some m.cls) (hts : ∀ q ∈ Ts, q.before args s = true) (hAM : ctA AM) (hK : va_K D cl tys s) (hP : va_P D cl ws H) (hD : va_D A ws) (hS : va_S A s.heap H locs) (hA : ∀ q : Nat, s.heap.size ≤ q → A q) (hMM : AM A s s.heap)
    (hG : GoodIn Ts w) (hw : w = Cond.code y bytes maxL none :: w') (hini : (Cond.initialized y.cls).before args s = true) (hl : (Cond.methodLink own index y).before args s = true) (hin : (Cond.instanceMethod y).before args s = true) (hy1 : y.name = "<init>") (hd : y.cls ≠ "java/lang/invoke/MethodHandle" ∧ y.cls ≠ "java/lang/invoke/VarHandle" ∧ (parseMethodDescriptor y.desc).map (fun d => d.parameters.length) = some n) (hR : fr + 1 ≤ R.frames ∧ 8 + (maxL + 11) + lo ≤ R.locals)
    (isC isR : List Nat) (hC : isC.map (fun i => ws[i]?) = w0.map some) (hRr : isR.map (fun i => ws[i]?) = wr.map some) (hnC : va_nd isC = true) (hnR : va_nd isR = true) (hdis : ∀ i ∈ isR, i ∉ isC) (hn : As.length = n) (hsize : ls.size = nL) (hst : st = As.reverse ++ .ref b :: rest) (hW : (rest.map fun v => v.category).sum ≤ 8) (hdg : decode cc pc = .ok (.invokespecial index, 3)) (hf : cells + mc ≤ R.cells ∧ slots + ms ≤ R.slots)
    (kk : ∀ (u : S) (H1 : Heap) (locs1 : List Loc), ok u → va_P D cl (wr ++ w1 u) H1 → va_D A (wr ++ w1 u) → va_S A s.heap H1 locs1 → W p l e R s m args below meth c H1 locs1 (cells + mc) (slots + ms) Q (F0 m (pc + 3) ls ((rv u).toList ++ rest))) : W p l e R s m args below meth c H locs cells slots Q (F0 m pc ls st) :=
  ct_back hP hD hS hA isC isR hC hRr hnR hdis (va_runI (g := F0 m pc ls st) (As := As) (rest := rest) ⟨hx, hb, hml, hown, hts⟩ (hM H.size) (cwI n hts hG hw rfl rfl hini hl hin hy1 hd hR) ⟨ctP_blind hAM, ctP_at hAM hK hP hD hS hA hMM isC hC hnC⟩ rfl hn hsize hst (lv_room hW) hdg hf) kk
/-- invokestatic of a nest mate's private method -/
theorem ct_callSN (hM : ct l D cl tys AM y w fr lo mc ms av w0 ok rv w1) (hx : p.tables.exec = Jvm.exec) (hb : c.code = cc) (hml : c.maxLocals = nL) (hown : s.vm.findClass own = some m.cls) (hts : ∀ q ∈ Ts, q.before args s = true) (hAM : ctA AM) (hK : va_K D cl tys s) (hP : va_P D cl ws H) (hD : va_D A ws) (hS : va_S A s.heap H locs) (hA : ∀ q : Nat, s.heap.size ≤ q → A q) (hMM : AM A s s.heap)
    (hG : GoodIn Ts w) (hw : w = Cond.code y bytes maxL ret :: w') (hl : va_Nw (.methodLinkNest own index y host) s) (hini : (Cond.initialized y.cls).before args s = true) (hstat : (Cond.static y).before args s = true) (hd : y.cls ≠ "java/lang/invoke/MethodHandle" ∧ y.cls ≠ "java/lang/invoke/VarHandle" ∧ (parseMethodDescriptor y.desc).map (fun d => d.parameters.length) = some n) (hR : fr + 1 ≤ R.frames ∧ 8 + (maxL + 11) + lo ≤ R.locals)
    (isC isR : List Nat) (hC : isC.map (fun i => ws[i]?) = w0.map some) (hRr : isR.map (fun i => ws[i]?) = wr.map some) (hnC : va_nd isC = true) (hnR : va_nd isR = true) (hdis : ∀ i ∈ isR, i ∉ isC) (hn : av.length = n) (hsize : ls.size = nL) (hst : st = av.reverse ++ rest) (hW : (rest.map fun v => v.category).sum ≤ 8) (hdg : decode cc pc = .ok (.invokestatic index, 3)) (hf : cells + mc ≤ R.cells ∧ slots + ms ≤ R.slots)
    (kk : ∀ (u : S) (H1 : Heap) (locs1 : List Loc), ok u → va_P D cl (wr ++ w1 u) H1 → va_D A (wr ++ w1 u) → va_S A s.heap H1 locs1 → W p l e R s m args below meth c H1 locs1 (cells + mc) (slots + ms) Q (F0 m (pc + 3) ls ((rv u).toList ++ rest))) : W p l e R s m args below meth c H locs cells slots Q (F0 m pc ls st) :=
  ct_back hP hD hS hA isC isR hC hRr hnR hdis (va_runSN (g := F0 m pc ls st) (As := av) (rest := rest) ⟨hx, hb, hml, hown, hts⟩ (hM H.size) ⟨va_cnB n hts hG hw rfl rfl hl hini hd hR, hstat, trivial⟩ ⟨ctP_blind hAM, ctP_at hAM hK hP hD hS hA hMM isC hC hnC⟩ rfl hn hsize hst (lv_room hW) hdg hf) kk
/-- invokespecial of a nest mate's private <init> -/
theorem ct_callIN (hM : ct l D cl tys AM y w fr lo mc ms (.ref b :: As) w0 ok rv w1) (hx : p.tables.exec = Jvm.exec) (hb : c.code = cc) (hml : c.maxLocals = nL) (hown : s.vm.findClass own = some m.cls) (hts : ∀ q ∈ Ts, q.before args s = true) (hAM : ctA AM) (hK : va_K D cl tys s) (hP : va_P D cl ws H) (hD : va_D A ws) (hS : va_S A s.heap H locs) (hA : ∀ q : Nat, s.heap.size ≤ q → A q) (hMM : AM A s s.heap)
    (hG : GoodIn Ts w) (hw : w = Cond.code y bytes maxL none :: w') (hl : va_Nw (.methodLinkNest own index y host) s) (hini : (Cond.initialized y.cls).before args s = true) (hin : (Cond.instanceMethod y).before args s = true) (hy1 : y.name = "<init>") (hd : y.cls ≠ "java/lang/invoke/MethodHandle" ∧ y.cls ≠ "java/lang/invoke/VarHandle" ∧ (parseMethodDescriptor y.desc).map (fun d => d.parameters.length) = some n) (hR : fr + 1 ≤ R.frames ∧ 8 + (maxL + 11) + lo ≤ R.locals)
    (isC isR : List Nat) (hC : isC.map (fun i => ws[i]?) = w0.map some) (hRr : isR.map (fun i => ws[i]?) = wr.map some) (hnC : va_nd isC = true) (hnR : va_nd isR = true) (hdis : ∀ i ∈ isR, i ∉ isC) (hn : As.length = n) (hsize : ls.size = nL) (hst : st = As.reverse ++ .ref b :: rest) (hW : (rest.map fun v => v.category).sum ≤ 8) (hdg : decode cc pc = .ok (.invokespecial index, 3)) (hf : cells + mc ≤ R.cells ∧ slots + ms ≤ R.slots)
    (kk : ∀ (u : S) (H1 : Heap) (locs1 : List Loc), ok u → va_P D cl (wr ++ w1 u) H1 → va_D A (wr ++ w1 u) → va_S A s.heap H1 locs1 → W p l e R s m args below meth c H1 locs1 (cells + mc) (slots + ms) Q (F0 m (pc + 3) ls ((rv u).toList ++ rest))) : W p l e R s m args below meth c H locs cells slots Q (F0 m pc ls st) :=
  ct_back hP hD hS hA isC isR hC hRr hnR hdis (va_runIN (g := F0 m pc ls st) (As := As) (rest := rest) ⟨hx, hb, hml, hown, hts⟩ (hM H.size) ⟨va_cnB n hts hG hw rfl rfl hl hini hd hR, hy1, hin⟩ ⟨ctP_blind hAM, ctP_at hAM hK hP hD hS hA hMM isC hC hnC⟩ rfl hn hsize hst (lv_room hW) hdg hf) kk
end CTB
