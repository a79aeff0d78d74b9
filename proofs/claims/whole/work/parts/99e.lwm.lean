abbrev y_Lw_seal : MethodName := ⟨"NonceBoxLaw", "seal", "(LNonceBox;[J)I"⟩
abbrev c_Lw_seal : ByteArray := method_3_code
abbrev h_Lw_seal : List (Nat × Nat × Nat × Nat) := [(0, 8, 11, 13)]
abbrev w_Lw_seal : List Cond := .codeWith y_Lw_seal c_Lw_seal 3 (some .int) h_Lw_seal :: tb
theorem kc_Lw_seal : Cond.codeWith y_Lw_seal c_Lw_seal 3 (some .int) h_Lw_seal ∈ tb := tb_t (List.mem_append_right _ (List.mem_append_right _ (List.mem_append_left _ (List.mem_of_getElem? (i := 217) rfl)))) rfl
abbrev y_Lw_open : MethodName := ⟨"NonceBoxLaw", "open", "(LNonceBox;[J)I"⟩
abbrev c_Lw_open : ByteArray := method_4_code
abbrev h_Lw_open : List (Nat × Nat × Nat × Nat) := [(0, 8, 11, 13), (0, 8, 14, 18)]
abbrev w_Lw_open : List Cond := .codeWith y_Lw_open c_Lw_open 3 (some .int) h_Lw_open :: tb
theorem kc_Lw_open : Cond.codeWith y_Lw_open c_Lw_open 3 (some .int) h_Lw_open ∈ tb := tb_t (List.mem_append_right _ (List.mem_append_right _ (List.mem_append_left _ (List.mem_of_getElem? (i := 232) rfl)))) rfl
abbrev y_Lw_box : MethodName := ⟨"NonceBoxLaw", "box", "(LNonceBox;[J)I"⟩
abbrev c_Lw_box : ByteArray := method_5_code
abbrev h_Lw_box : List (Nat × Nat × Nat × Nat) := [(0, 8, 11, 13)]
abbrev w_Lw_box : List Cond := .codeWith y_Lw_box c_Lw_box 3 (some .int) h_Lw_box :: tb
theorem kc_Lw_box : Cond.codeWith y_Lw_box c_Lw_box 3 (some .int) h_Lw_box ∈ tb := tb_t (List.mem_append_right _ (List.mem_append_right _ (List.mem_append_right _ (List.mem_append_left _ (List.mem_of_getElem? (i := 25) rfl))))) rfl
abbrev y_Lw_unbox : MethodName := ⟨"NonceBoxLaw", "unbox", "(LNonceBox;[J)I"⟩
abbrev c_Lw_unbox : ByteArray := method_6_code
abbrev h_Lw_unbox : List (Nat × Nat × Nat × Nat) := [(0, 8, 11, 13), (0, 8, 14, 18)]
abbrev w_Lw_unbox : List Cond := .codeWith y_Lw_unbox c_Lw_unbox 3 (some .int) h_Lw_unbox :: tb
theorem kc_Lw_unbox : Cond.codeWith y_Lw_unbox c_Lw_unbox 3 (some .int) h_Lw_unbox ∈ tb := tb_t (List.mem_append_right _ (List.mem_append_right _ (List.mem_append_right _ (List.mem_append_left _ (List.mem_of_getElem? (i := 32) rfl))))) rfl
theorem kt_IllegalArgumentException : Cond.castable "java/lang/IllegalArgumentException" "java/lang/IllegalArgumentException" ∈ tables_1 := (List.mem_append_right _ (List.mem_append_left _ (List.mem_of_getElem? (i := 31) rfl)))
theorem ks_Lw_seal : Cond.static ⟨"NonceBoxLaw", "seal", "(LNonceBox;[J)I"⟩ ∈ tb := tb_t (List.mem_append_right _ (List.mem_append_right _ (List.mem_append_left _ (List.mem_of_getElem? (i := 216) rfl)))) rfl
theorem kC_Lw_13 : Cond.classLink "NonceBoxLaw" 13 "java/lang/IllegalArgumentException" ∈ tb := tb_t (List.mem_append_right _ (List.mem_append_right _ (List.mem_append_left _ (List.mem_of_getElem? (i := 218) rfl)))) rfl
theorem ks_Lw_open : Cond.static ⟨"NonceBoxLaw", "open", "(LNonceBox;[J)I"⟩ ∈ tb := tb_t (List.mem_append_right _ (List.mem_append_right _ (List.mem_append_left _ (List.mem_of_getElem? (i := 231) rfl)))) rfl
theorem kC_Lw_18 : Cond.classLink "NonceBoxLaw" 18 "java/lang/IllegalStateException" ∈ tb := tb_t (List.mem_append_right _ (List.mem_append_right _ (List.mem_append_left _ (List.mem_of_getElem? (i := 233) rfl)))) rfl
theorem kt_IllegalStateException : Cond.castable "java/lang/IllegalStateException" "java/lang/IllegalStateException" ∈ tables_1 := (List.mem_append_right _ (List.mem_append_right _ (List.mem_append_right _ (List.mem_append_left _ (List.mem_of_getElem? (i := 9) rfl)))))
theorem ks_Lw_box : Cond.static ⟨"NonceBoxLaw", "box", "(LNonceBox;[J)I"⟩ ∈ tb := tb_t (List.mem_append_right _ (List.mem_append_right _ (List.mem_append_right _ (List.mem_append_left _ (List.mem_of_getElem? (i := 24) rfl))))) rfl
theorem ks_Lw_unbox : Cond.static ⟨"NonceBoxLaw", "unbox", "(LNonceBox;[J)I"⟩ ∈ tb := tb_t (List.mem_append_right _ (List.mem_append_right _ (List.mem_append_right _ (List.mem_append_left _ (List.mem_of_getElem? (i := 31) rfl))))) rfl
/-- which of the two exceptions is which -/
def CA (s : State) : Prop := ∃ a b : ClassId, s.vm.findClass "java/lang/IllegalArgumentException" = some a ∧ s.vm.findClass "java/lang/IllegalStateException" = some b ∧ s.vm.assignable a a = true ∧ s.vm.assignable b b = true ∧ s.vm.assignable b a = false
theorem CA.warm {s : State} {vm : Vm} (hW : s.WarmedH vm) (h : CA s) (U : State) (hU : U.vm = vm) : CA U := by
  obtain ⟨a, b, h1, h2, h3, h4, h5⟩ := h
  have hal := hW.alike
  rw [← hU] at hal
  exact ⟨a, b, (hal.findClass _ _).trans h1, (hal.findClass _ _).trans h2, (hal.assignable _ _).trans h3, (hal.assignable _ _).trans h4, (hal.assignable _ _).trans h5⟩
section FTS
variable {p : Program} {l : Launch} {e : Env} {R : Room} {s T U : State} {m : MethodId} {args : Array Value} {below : List Frame} {meth : Method} {c : Code} {locs : List Loc} {cells slots : Nat} {a : Addr} {ce : Cell} {f : JFrame}
theorem ft_cls {vm : Vm} (hW : s.WarmedH vm) {nm : String} {k : ClassId} (h : s.vm.findClass nm = some k) : ∃ z, vm.classes[k]? = some z := by
  obtain ⟨z, hz⟩ := Vm.classAt_of_findClass h
  obtain ⟨z', hz', -⟩ := hW.alike.2.2 _ _ hz
  exact ⟨z', hz'⟩
/-- the first handler takes an IllegalArgumentException -/
theorem ft_arg {r : List (Nat × Nat × Nat × Nat)} (X : Stand p l e R s m args below meth c T locs cells slots) (hown : s.vm.findClass "NonceBoxLaw" = some m.cls) (h13 : (Cond.classLink "NonceBoxLaw" 13 "java/lang/IllegalArgumentException").before args s = true) (hCA : CA s) (htab : c.exceptionTable.toList.map (fun h => (h.startPc, h.endPc, h.handlerPc, h.catchType)) = (0, 8, 11, 13) :: r)
    (hU : U.vm = T.vm) (hc : U.heap[a]? = some ce) (hn : ce.vm = .none) (hcls : s.vm.findClass "java/lang/IllegalArgumentException" = some ce.cls) (hf : f.method = m) (hpc : f.pc = 3) : ∃ vm', s.WarmedH vm' ∧ FT e U f a 11 vm' := by
  obtain ⟨k, hk, hkw⟩ := fh_warm X hown h13
  obtain ⟨ka, kb, c1, c2, c3, c4, c5⟩ := hCA
  cases hk.symm.trans hcls
  cases hcls.symm.trans c1
  obtain ⟨q1, q2, q3⟩ := hkw T.vm X.warmed
  obtain ⟨x, t, ht, hx, -⟩ := List.map_eq_cons_iff.mp htab
  obtain ⟨x1, x2, x3, x4⟩ : x.startPc = 0 ∧ x.endPc = 8 ∧ x.handlerPc = 11 ∧ x.catchType = 13 := by simpa using hx
  have hm : U.vm.method? f.method = some meth := by rw [hU, hf]; exact X.method'
  refine ⟨T.vm.noted m.cls 13 (.cls ce.cls), q2, fun Q E d acts => ?_⟩
  rw [W.findHandler_eq hm X.code, ht]
  have K := fh_one (e := e) (s := U) (f := f) (a := a) (Q := Q) (E := E) (d := d) (acts := acts) (x := x) (t := t) (k := ce.cls) (cell := ce) (b := true) (by simp [covers, x1, x2, hpc]) (by rw [x4]; decide) (by rw [hU, hf, x4]; exact q1) hc (fun z hz => by rw [hn] at hz; cases hz) (by rw [hU]; exact q3) (by rw [hU]; exact q3) (by rw [hU, X.warmed.alike.assignable]; exact c3)
  rw [K, if_pos rfl, x3, x4, hf, hU]
/-- the second handler takes an IllegalStateException -/
theorem ft_sta {r : List (Nat × Nat × Nat × Nat)} (X : Stand p l e R s m args below meth c T locs cells slots) (hown : s.vm.findClass "NonceBoxLaw" = some m.cls) (h13 : (Cond.classLink "NonceBoxLaw" 13 "java/lang/IllegalArgumentException").before args s = true) (h18 : (Cond.classLink "NonceBoxLaw" 18 "java/lang/IllegalStateException").before args s = true) (hCA : CA s) (htab : c.exceptionTable.toList.map (fun h => (h.startPc, h.endPc, h.handlerPc, h.catchType)) = (0, 8, 11, 13) :: (0, 8, 14, 18) :: r)
    (hU : U.vm = T.vm) (hc : U.heap[a]? = some ce) (hn : ce.vm = .none) (hcls : s.vm.findClass "java/lang/IllegalStateException" = some ce.cls) (hf : f.method = m) (hpc : f.pc = 3) : ∃ vm', s.WarmedH vm' ∧ FT e U f a 14 vm' := by
  obtain ⟨k, hk, hkw⟩ := fh_warm X hown h13
  obtain ⟨k2, hk2, hkw2⟩ := fh_warm X hown h18
  obtain ⟨ka, kb, c1, c2, c3, c4, c5⟩ := hCA
  cases hk.symm.trans c1
  cases hk2.symm.trans hcls
  cases hcls.symm.trans c2
  obtain ⟨q1, q2, q3⟩ := hkw T.vm X.warmed
  obtain ⟨r1, r2, r3⟩ := hkw2 _ q2
  have q4 := ft_cls X.warmed hcls
  obtain ⟨x, t, ht, hx, htt⟩ := List.map_eq_cons_iff.mp htab
  obtain ⟨y, t2, ht2, hy, -⟩ := List.map_eq_cons_iff.mp htt
  obtain ⟨x1, x2, x3, x4⟩ : x.startPc = 0 ∧ x.endPc = 8 ∧ x.handlerPc = 11 ∧ x.catchType = 13 := by simpa using hx
  obtain ⟨y1, y2, y3, y4⟩ : y.startPc = 0 ∧ y.endPc = 8 ∧ y.handlerPc = 14 ∧ y.catchType = 18 := by simpa using hy
  have hm : U.vm.method? f.method = some meth := by rw [hU, hf]; exact X.method'
  refine ⟨(T.vm.noted m.cls 13 (.cls k)).noted m.cls 18 (.cls ce.cls), r2, fun Q E d acts => ?_⟩
  rw [W.findHandler_eq hm X.code, ht, ht2]
  have K := fh_one (e := e) (s := U) (f := f) (a := a) (Q := Q) (E := E) (d := d) (acts := acts) (x := x) (t := y :: t2) (k := k) (cell := ce) (b := false) (by simp [covers, x1, x2, hpc]) (by rw [x4]; decide) (by rw [hU, hf, x4]; exact q1) hc (fun z hz => by rw [hn] at hz; cases hz) (by rw [hU]; exact q4) (by rw [hU]; exact q3) (by rw [hU, X.warmed.alike.assignable]; exact c5)
  rw [K, if_neg (by decide), x4, hf, hU]
  have K2 := fh_one (e := e) (s := U.setVm (T.vm.noted m.cls 13 (.cls k))) (f := f) (a := a) (Q := Q) (E := E) (d := d) (acts := acts) (x := y) (t := t2) (k := ce.cls) (cell := ce) (b := true) (by simp [covers, y1, y2, hpc]) (by rw [y4]; decide) (by rw [hf, y4]; exact r1) hc (fun z hz => by rw [hn] at hz; cases hz) r3 r3 ((q2.alike.assignable _ _).trans c4)
  rw [K2, if_pos rfl, y3, y4, hf]
  rfl
end FTS
section LWR
variable {p : Program} {l : Launch} {e : Env} {R : Room} {s : State} {m : MethodId} {args : Array Value} {below : List Frame} {meth : Method} {c : Code} {H : Heap} {locs : List Loc} {cells slots : Nat} {Q : State → Prop} {cc : ByteArray} {pc : Nat} {ls : Array Slot} {rest st0 As : List Value} {G : wG} {A : Nat → Prop} {n : Nat} {ad : Nat → Nat} {ev : Nat → va_E} {x : Cond} {y : MethodName} {bytes : ByteArray} {maxL nL index k mc ms : Nat} {ret : Option FieldType} {hh : List (Nat × Nat × Nat × Nat)} {rm : Room} {own : String}
theorem wPt_blind {s0 : State} {av : List Value} : FrameBlind (wPt s0 G n ad ev av) := fun a U g mk q => ⟨wPc_blind a U g mk q.1, q.2⟩
/-- the entry of a method with handlers -/
theorem wv_ofC {s0 : State} {ws ws' : List Cond} {av : List Value} {Qc : Array Value → State → Outcome → State → Prop} (hy : plainName y.cls = true) (hw : ws = Cond.codeWith y cc maxL ret hh :: ws') (hlen : (lg_sl av).length ≤ maxL)
    (body : ∀ (p : Program) (e : Env) (s : State) (m : MethodId) (below : List Frame) (meth : Method) (c : Code) (ls : Array Slot), l.admits e → p.tables.exec = Jvm.exec → c.code = cc → meth.sig.returnType = ret → c.maxLocals = maxL → (∀ w ∈ ws, w.before av.toArray s = true) → s.vm.findClass y.cls = some m.cls → meth.locks = false → wT G (A0 s0) n ad ev s s.heap [] → lv_has ls maxL (lv_args 0 av) → OLD s0 s → c.exceptionTable.toList.map (fun h => (h.startPc, h.endPc, h.handlerPc, h.catchType)) = hh →
      W p l e rm s m av.toArray below meth c s.heap [] 0 0 (MQ below Qc av.toArray s mc ms (A0 s0)) (F0 m 0 ls [])) : Met l y ws rm (wPt s0 G n ad ev av) Qc mc ms (A0 s0) := by
  refine va_MetW (cc := cc) (maxL := maxL) (ret := ret) (hh := hh) hy hw ?_
  intro p e s m args below meth c s₁ B hml hv
  obtain ⟨⟨rfl, ⟨hK, hP, hD⟩, hA⟩, hO⟩ := hv
  have hts := atoms_spec (ws := ws) B.pre
  obtain ⟨m', meth', c', h1, h2, h3, -, -, h6, -⟩ := Cond.codeWith_spec (hts _ (by rw [hw]; exact List.mem_cons_self))
  cases B.named.symm.trans h1
  cases B.method.symm.trans h2
  cases (Stand.of_body B).code.symm.trans h3
  have hl := lv_entry av (n := maxL) hlen
  rw [lg_entry_eq]
  generalize (lg_sl av ++ List.replicate (maxL - (lg_sl av).length) Slot.unset).toArray = ls at hl ⊢
  exact body p e s m below meth _ ls B.admits B.exec B.bytes B.returns hml hts (findClass_of_methodNamed B.named) B.notSynchronized ⟨⟨hK, hP, hD⟩, va_S.rf, hA⟩ hl hO h6
/-- a call of a static method with handlers -/
theorem va_runSw {Pc : Array Value → State → Prop} {Qc : Array Value → State → Outcome → State → Prop} {free : Addr → Prop} (hC : CallFix p m c cc nL s args (x :: tb) own) (hM : Met l y (.codeWith y bytes maxL ret hh :: tb) rm Pc Qc mc ms free) (hcode : Cond.codeWith y bytes maxL ret hh ∈ tb) (hlink : Cond.methodLink own index y ∈ tb) (hstat : Cond.static y ∈ tb) (hini : Cond.initialized y.cls ∈ tb)
    (hd : y.cls ≠ "java/lang/invoke/MethodHandle" ∧ y.cls ≠ "java/lang/invoke/VarHandle" ∧ (parseMethodDescriptor y.desc).map (fun d => d.parameters.length) = some k) (hR : rm.cells = mc ∧ rm.slots = ms ∧ rm.frames + 1 ≤ R.frames ∧ 8 + (maxL + 11) + rm.locals ≤ R.locals) (hp : PreS s H Pc As) (hsz : ls.size = nL) (hn : As.length = k) (hst : st0 = As.reverse ++ rest) (hW : (rest.map fun v => v.category).sum ≤ 8) (hf : cells + mc ≤ R.cells ∧ slots + ms ≤ R.slots) (hdg : decode cc pc = .ok (.invokestatic index, 3)) :
    va_Run p l e R s m args below meth c H locs cells slots mc ms (F0 m pc ls st0) rest (Qc As.toArray) free := by
  obtain ⟨hx, hb, hml, ho, hts⟩ := hC
  have hT : ∀ w ∈ tb, w.before args s = true := fun w hw => hts w (List.mem_cons_of_mem _ hw)
  have hG : GoodIn (x :: tb) (.codeWith y bytes maxL ret hh :: tb) := tb_good (fun w hw => by
    rcases List.mem_cons.mp hw with rfl | hw
    · exact hcode
    · exact hw)
  have hK : Back l R p e below s args y 3 8 (PreOf R mc ms Pc) (PostOf Qc mc ms free) := va_backW (hh := hh) (bytes := bytes) (maxL := maxL) (ret := ret) hM hp.1 hR.1 hR.2.1 hR.2.2.1 hR.2.2.2 (pay_in hts hG) List.mem_cons_self (fun a' U hW => word_at hW (Or.inl (by first | rfl | simp [Cond.onTables, Cond.keeps, Cond.steady])) (hT _ hini))
  obtain ⟨mk, mM, cM, n1, n2, -, -, -, -, -, -, n9⟩ := Cond.codeWith_spec (hT _ hcode)
  have n3 : mM.isStatic = true := Cond.static_spec n1 n2 (hT _ hstat)
  obtain ⟨kP, i1, -⟩ := className_of_methodNamed n1
  have i2 : kP.init = .initialized := Cond.initialized_spec (findClass_of_methodNamed n1) i1 (hT _ hini)
  have hlen : As.length = mM.sig.parameters.length := by
    have h2 := hd.2.2
    rw [n9] at h2
    exact hn.trans (Option.some.inj h2).symm
  intro T hTH X
  obtain ⟨vm1, X1, st1⟩ := X.invokestatic hx ho (hT _ hlink) n1 n2 n3 i1 i2 ⟨hd.1, hd.2.1⟩ (g := F0 m pc ls st0) rfl (argsL := As) (rest := rest) hlen hst (by rw [hb]; exact hdg)
  obtain ⟨v, ⟨U', l2, c2, s2⟩, X', ⟨g', mk', t, L, e1, e2, hq, h1, hL, h2, h3⟩, sts⟩ := hK m meth c ⟨T.setVm vm1, locs, cells, slots⟩ (F0 m pc ls rest) (.invokestatic index) mk As.toArray X1 rfl (hsz.trans hml.symm) (by rw [hb]; exact hdg) (lv_room hW) (X1.named n1) ⟨hf.1, hf.2, hp.2 (T.setVm vm1) hTH X1.warmed⟩
  dsimp only [Pt.U, Pt.locs, Pt.cells, Pt.slots] at X' e1 e2 h1 h2 h3 sts
  subst h1; subst h2; subst h3
  exact ⟨v, (T.setVm vm1).calling g' mk' As.toArray, t, U', L, hTH, X', hL, e1, e2, hq, fun target hk => st1 _ fun acts => by rw [doInvoke_state]; exact sts.trans hk⟩
/-- the OLD world at a state whose heap is the walk's -/
theorem wT.old {s0 : State} (h : wT G (A0 s0) n ad ev s H locs) (hold : OLD s0 s) {U : State} (hU : U.heap = H) (hW : s.WarmedH U.vm) : OLD s0 U := by
  obtain ⟨-, hS, -⟩ := h
  exact ⟨State.WarmedH.trans hold.1 hW, by rw [hU]; exact Nat.le_trans hold.2.1 hS.1, fun z hz => by rw [hU]; exact (hS.2.1 z (Nat.lt_of_lt_of_le hz hold.2.1) (Nat.not_le.mpr hz)).trans (hold.2.2 z hz)⟩
theorem wT.preT {s0 : State} {av : List Value} (h : wT G (A0 s0) n ad ev s H locs) (hold : OLD s0 s) : PreS s H (wPt s0 G n ad ev av) av := ⟨wPt_blind, fun U hU hW => ⟨h.preS.2 U hU hW, h.old hold hU hW⟩⟩
end LWR
theorem NB.fr {G : wG} {ad : Nat → Nat} {ev ev' : Nat → va_E} {Bf : Nat → Nat → Nat} {tl ol : Nat} (h : NB G ad ev Bf tl ol) (he : ∀ j, j < 37 → ev' j = ev j) : NB G ad ev' Bf tl ol := by
  unfold NB at h ⊢
  simp only [he 0 (by decide), he 1 (by decide), he 2 (by decide), he 3 (by decide), he 4 (by decide), he 5 (by decide), he 6 (by decide), he 7 (by decide), he 8 (by decide), he 9 (by decide), he 10 (by decide), he 11 (by decide), he 12 (by decide), he 13 (by decide), he 14 (by decide), he 15 (by decide), he 16 (by decide), he 17 (by decide), he 18 (by decide), he 19 (by decide), he 20 (by decide), he 21 (by decide), he 22 (by decide), he 23 (by decide), he 24 (by decide), he 25 (by decide), he 26 (by decide), he 27 (by decide), he 28 (by decide), he 29 (by decide), he 30 (by decide), he 31 (by decide), he 32 (by decide), he 33 (by decide), he 34 (by decide), he 35 (by decide), he 36 (by decide)]
  exact h
theorem MD.fr {G : wG} {ad : Nat → Nat} {ev ev' : Nat → va_E} {Bf : Nat → Nat → Nat} {tl ol cd : Nat} (h : MD G ad ev Bf tl ol cd) (he : ∀ j, 37 ≤ j → j ≤ 50 → ev' j = ev j) : MD G ad ev' Bf tl ol cd := by
  unfold MD at h ⊢
  simp only [he 37 (by decide) (by decide), he 38 (by decide) (by decide), he 39 (by decide) (by decide), he 40 (by decide) (by decide), he 41 (by decide) (by decide), he 42 (by decide) (by decide), he 43 (by decide) (by decide), he 44 (by decide) (by decide), he 45 (by decide) (by decide), he 46 (by decide) (by decide), he 47 (by decide) (by decide), he 48 (by decide) (by decide), he 49 (by decide) (by decide), he 50 (by decide) (by decide)]
  exact h
theorem d_Lw_seal_0 : decode c_Lw_seal 0 = .ok (.aload_n 1, 1) := by decide +kernel
theorem d_Lw_seal_1 : decode c_Lw_seal 1 = .ok (.iconst 0, 1) := by decide +kernel
theorem d_Lw_seal_2 : decode c_Lw_seal 2 = .ok (.aload_n 0, 1) := by decide +kernel
theorem d_Lw_seal_3 : decode c_Lw_seal 3 = .ok (.invokevirtual 7, 3) := by decide +kernel
theorem d_Lw_seal_6 : decode c_Lw_seal 6 = .ok (.i2l, 1) := by decide +kernel
theorem d_Lw_seal_7 : decode c_Lw_seal 7 = .ok (.lastore, 1) := by decide +kernel
theorem d_Lw_seal_8 : decode c_Lw_seal 8 = .ok (.goto 6, 3) := by decide +kernel
theorem d_Lw_seal_11 : decode c_Lw_seal 11 = .ok (.astore_n 2, 1) := by decide +kernel
theorem d_Lw_seal_12 : decode c_Lw_seal 12 = .ok (.iconst 1, 1) := by decide +kernel
theorem d_Lw_seal_13 : decode c_Lw_seal 13 = .ok (.ireturn, 1) := by decide +kernel
theorem d_Lw_seal_14 : decode c_Lw_seal 14 = .ok (.iconst 0, 1) := by decide +kernel
theorem d_Lw_seal_15 : decode c_Lw_seal 15 = .ok (.ireturn, 1) := by decide +kernel
set_option maxRecDepth 100000 in
set_option maxHeartbeats 4000000 in
/-- the law's own seal -/
theorem q_Lw_seal (l : Launch) (hoff : ∀ e, l.admits e → e.platform.stackTraces = false) (s0 : State) (hTW : TW s0) (hCA : CA s0) (G : wG) (ad : Nat → Nat) (ev : Nat → va_E) (Bf : Nat → Nat → Nat) (tl ol : Nat) (hNB : NB G ad ev Bf tl ol) (fo : Nat → Int64) (h51 : ev 51 = eJ G 1 fo) : Met l y_Lw_seal w_Lw_seal ({ frames := 33, cells := 1, slots := 6, locals := 1100 }) (wPt s0 G 52 ad ev [.ref (ad 0), .ref (ad 51)]) (wQc G (A0 s0) 52 ad (fun ov ev' => ∃ (ans : Int32) (Bf' : Nat → Nat → Nat) (ol' cd' : Nat) (fo' : Nat → Int64), ov = some (.int (nI cd')) ∧ spSeal (Bf 0) Bf tl ol ans Bf' ol' cd' ∧ NB G ad ev' Bf' tl ol' ∧ ev' 51 = eJ G 1 fo' ∧ (cd' = 0 → fo' 0 = ans.toInt64) ∧ ∀ j, 37 ≤ j → j ≤ 50 → ev' j = ev j)) 1 6 (A0 s0) := by
  refine wv_ofC (cc := c_Lw_seal) (maxL := 3) (ret := some .int) (hh := h_Lw_seal) (by decide) rfl (Nat.le_of_ble_eq_true rfl) ?_
  intro p e s m below meth c ls hadm hx hb hr hml hts hown hlocks h hl hO htab
  have htr := hoff e hadm
  have hCAs : CA s := hCA.warm hO.1 s rfl
  have hl : lv_has ls 3 [(0, .ref (ad 0)), (1, .ref (ad 51))] := hl
  have hNB0 := hNB
  obtain ⟨g0, -⟩ := hNB0
  by_cases hc : tl ≤ 96
  · skip
    refine lv_aload_n hx hb d_Lw_seal_0 rfl (lv_at hl 1 rfl) ?_
    refine lv_iconst (v := nI (0)) hx hb d_Lw_seal_1 (by decide) ?_
    refine lv_aload_n hx hb d_Lw_seal_2 rfl (lv_at hl 0 rfl) ?_
    refine wv_V (As := []) (rest := [.int (nI (0)), .ref (ad 51)]) (k := 0) ⟨hx, hb, hml, hown, hts⟩ h 0 (by decide) (C := "NonceBox") g0 rfl (r_NB_seal l G (A0 s0) ad ev Bf tl ol hNB hc) kc_NB_seal kl_Lw_7 km_NB_seal kv_NB_seal ki_NB (by decide +kernel) ⟨rfl, rfl, Nat.le_of_ble_eq_true rfl, Nat.le_of_ble_eq_true rfl⟩ hl.1 rfl rfl (Nat.le_of_ble_eq_true rfl) ⟨Nat.zero_le _, Nat.zero_le _⟩ d_Lw_seal_3 ?_
    intro ov ev9 H locs hp h
    obtain ⟨ho, hN9, hfr⟩ := hp
    rw [ho]
    refine W.eq (g2 := F0 m 6 ls [.int (nI (16 + tl)), .int (nI (0)), .ref (ad 51)]) rfl ?_
    have q51 := (hfr 51 (by decide)).trans h51
    refine lv_i2l (v := (nI (16 + tl)).toInt64) hx hb d_Lw_seal_6 rfl ?_
    refine wv_last hx hb h 51 (by decide) (f := fo) q51 (k := 0) rfl (by decide) (by decide) d_Lw_seal_7 (fun H locs h => ?_)
    refine lv_goto (tgt := 14) hx hb d_Lw_seal_8 (by decide) ?_
    refine lv_iconst (v := nI (0)) hx hb d_Lw_seal_14 (by decide) ?_
    refine W.widen (k := 1) (n := 6) (by decide) (by decide) ?_
    refine wv_iret hx hb hr hlocks h d_Lw_seal_15 ⟨nI (16 + tl), _, _, 0, _, rfl, Or.inl ⟨hc, rfl, rfl, rfl, rfl⟩, hN9.fr (fun j hj => va_up_ne _ _ (by omega)), va_up_self .., fun _ => va_up_self .., fun j h1 h2 => (va_up_ne _ _ (by omega)).trans (hfr j h1)⟩
  · skip
    refine lv_aload_n hx hb d_Lw_seal_0 rfl (lv_at hl 1 rfl) ?_
    refine lv_iconst (v := nI (0)) hx hb d_Lw_seal_1 (by decide) ?_
    refine lv_aload_n hx hb d_Lw_seal_2 rfl (lv_at hl 0 rfl) ?_
    refine wv_vcatch (rest := [.int (nI (0)), .ref (ad 51)]) (hp := 11) (C := "NonceBox") ⟨hx, hb, hml, hown, hts⟩ htr hO h 0 (by decide) g0 rfl (t_NB_seal l s0 hTW G ad ev Bf tl ol hNB hc) kc_NB_seal kl_Lw_7 km_NB_seal kv_NB_seal ki_NB (by decide +kernel) ⟨rfl, rfl, Nat.le_of_ble_eq_true rfl, Nat.le_of_ble_eq_true rfl⟩ hl.1 (Nat.le_of_ble_eq_true rfl) ⟨Nat.le_of_ble_eq_true rfl, Nat.le_of_ble_eq_true rfl⟩ d_Lw_seal_3 (fun locs cells slots T U a ce f X hU hc hn hcls hf hpc => ft_arg X hown (hts _ (List.mem_cons_of_mem _ kC_Lw_13)) hCAs htab hU hc hn hcls hf hpc) ?_
    intro a ev9 H locs hp h
    refine lv_astore_n (lv' := [(2, .ref (a)), (0, .ref (ad 0)), (1, .ref (ad 51))]) hx hb d_Lw_seal_11 rfl hl (by decide) rfl (fun ls hl => ?_)
    refine lv_iconst (v := nI (1)) hx hb d_Lw_seal_12 (by decide) ?_
    rw [hp] at h
    exact wv_iret hx hb hr hlocks h d_Lw_seal_13 ⟨nI 0, Bf, ol, 1, fo, rfl, Or.inr ⟨hc, rfl, rfl, rfl, rfl⟩, hNB, h51, fun q => absurd q (by decide), fun j _ _ => rfl⟩
theorem d_Lw_box_0 : decode c_Lw_box 0 = .ok (.aload_n 1, 1) := by decide +kernel
theorem d_Lw_box_1 : decode c_Lw_box 1 = .ok (.iconst 0, 1) := by decide +kernel
theorem d_Lw_box_2 : decode c_Lw_box 2 = .ok (.aload_n 0, 1) := by decide +kernel
theorem d_Lw_box_3 : decode c_Lw_box 3 = .ok (.invokevirtual 20, 3) := by decide +kernel
theorem d_Lw_box_6 : decode c_Lw_box 6 = .ok (.i2l, 1) := by decide +kernel
theorem d_Lw_box_7 : decode c_Lw_box 7 = .ok (.lastore, 1) := by decide +kernel
theorem d_Lw_box_8 : decode c_Lw_box 8 = .ok (.goto 6, 3) := by decide +kernel
theorem d_Lw_box_11 : decode c_Lw_box 11 = .ok (.astore_n 2, 1) := by decide +kernel
theorem d_Lw_box_12 : decode c_Lw_box 12 = .ok (.iconst 1, 1) := by decide +kernel
theorem d_Lw_box_13 : decode c_Lw_box 13 = .ok (.ireturn, 1) := by decide +kernel
theorem d_Lw_box_14 : decode c_Lw_box 14 = .ok (.iconst 0, 1) := by decide +kernel
theorem d_Lw_box_15 : decode c_Lw_box 15 = .ok (.ireturn, 1) := by decide +kernel
set_option maxRecDepth 100000 in
set_option maxHeartbeats 4000000 in
/-- the law's own box -/
theorem q_Lw_box (l : Launch) (hoff : ∀ e, l.admits e → e.platform.stackTraces = false) (s0 : State) (hTW : TW s0) (hCA : CA s0) (G : wG) (ad : Nat → Nat) (ev : Nat → va_E) (Bf : Nat → Nat → Nat) (tl ol : Nat) (hNB : NB G ad ev Bf tl ol) (fo : Nat → Int64) (h51 : ev 51 = eJ G 1 fo) : Met l y_Lw_box w_Lw_box ({ frames := 33, cells := 1, slots := 6, locals := 1100 }) (wPt s0 G 52 ad ev [.ref (ad 0), .ref (ad 51)]) (wQc G (A0 s0) 52 ad (fun ov ev' => ∃ (ans : Int32) (Bf' : Nat → Nat → Nat) (ol' cd' : Nat) (fo' : Nat → Int64), ov = some (.int (nI cd')) ∧ spSeal (AGRB (Bf 0) (Bf 2)) Bf tl ol ans Bf' ol' cd' ∧ NB G ad ev' Bf' tl ol' ∧ ev' 51 = eJ G 1 fo' ∧ (cd' = 0 → fo' 0 = ans.toInt64) ∧ ∀ j, 37 ≤ j → j ≤ 50 → ev' j = ev j)) 1 6 (A0 s0) := by
  refine wv_ofC (cc := c_Lw_box) (maxL := 3) (ret := some .int) (hh := h_Lw_box) (by decide) rfl (Nat.le_of_ble_eq_true rfl) ?_
  intro p e s m below meth c ls hadm hx hb hr hml hts hown hlocks h hl hO htab
  have htr := hoff e hadm
  have hCAs : CA s := hCA.warm hO.1 s rfl
  have hl : lv_has ls 3 [(0, .ref (ad 0)), (1, .ref (ad 51))] := hl
  have hNB0 := hNB
  obtain ⟨g0, -⟩ := hNB0
  by_cases hc : tl ≤ 96
  · skip
    refine lv_aload_n hx hb d_Lw_box_0 rfl (lv_at hl 1 rfl) ?_
    refine lv_iconst (v := nI (0)) hx hb d_Lw_box_1 (by decide) ?_
    refine lv_aload_n hx hb d_Lw_box_2 rfl (lv_at hl 0 rfl) ?_
    refine wv_V (As := []) (rest := [.int (nI (0)), .ref (ad 51)]) (k := 0) ⟨hx, hb, hml, hown, hts⟩ h 0 (by decide) (C := "NonceBox") g0 rfl (r_NB_box l G (A0 s0) ad ev Bf tl ol hNB hc) kc_NB_box kl_Lw_20 km_NB_box kv_NB_box ki_NB (by decide +kernel) ⟨rfl, rfl, Nat.le_of_ble_eq_true rfl, Nat.le_of_ble_eq_true rfl⟩ hl.1 rfl rfl (Nat.le_of_ble_eq_true rfl) ⟨Nat.zero_le _, Nat.zero_le _⟩ d_Lw_box_3 ?_
    intro ov ev9 H locs hp h
    obtain ⟨ho, hN9, hfr⟩ := hp
    rw [ho]
    refine W.eq (g2 := F0 m 6 ls [.int (nI (16 + tl)), .int (nI (0)), .ref (ad 51)]) rfl ?_
    have q51 := (hfr 51 (by decide)).trans h51
    refine lv_i2l (v := (nI (16 + tl)).toInt64) hx hb d_Lw_box_6 rfl ?_
    refine wv_last hx hb h 51 (by decide) (f := fo) q51 (k := 0) rfl (by decide) (by decide) d_Lw_box_7 (fun H locs h => ?_)
    refine lv_goto (tgt := 14) hx hb d_Lw_box_8 (by decide) ?_
    refine lv_iconst (v := nI (0)) hx hb d_Lw_box_14 (by decide) ?_
    refine W.widen (k := 1) (n := 6) (by decide) (by decide) ?_
    refine wv_iret hx hb hr hlocks h d_Lw_box_15 ⟨nI (16 + tl), _, _, 0, _, rfl, Or.inl ⟨hc, rfl, rfl, rfl, rfl⟩, hN9.fr (fun j hj => va_up_ne _ _ (by omega)), va_up_self .., fun _ => va_up_self .., fun j h1 h2 => (va_up_ne _ _ (by omega)).trans (hfr j h1)⟩
  · skip
    refine lv_aload_n hx hb d_Lw_box_0 rfl (lv_at hl 1 rfl) ?_
    refine lv_iconst (v := nI (0)) hx hb d_Lw_box_1 (by decide) ?_
    refine lv_aload_n hx hb d_Lw_box_2 rfl (lv_at hl 0 rfl) ?_
    refine wv_vcatch (rest := [.int (nI (0)), .ref (ad 51)]) (hp := 11) (C := "NonceBox") ⟨hx, hb, hml, hown, hts⟩ htr hO h 0 (by decide) g0 rfl (t_NB_box l s0 hTW G ad ev Bf tl ol hNB hc) kc_NB_box kl_Lw_20 km_NB_box kv_NB_box ki_NB (by decide +kernel) ⟨rfl, rfl, Nat.le_of_ble_eq_true rfl, Nat.le_of_ble_eq_true rfl⟩ hl.1 (Nat.le_of_ble_eq_true rfl) ⟨Nat.le_of_ble_eq_true rfl, Nat.le_of_ble_eq_true rfl⟩ d_Lw_box_3 (fun locs cells slots T U a ce f X hU hc hn hcls hf hpc => ft_arg X hown (hts _ (List.mem_cons_of_mem _ kC_Lw_13)) hCAs htab hU hc hn hcls hf hpc) ?_
    intro a ev9 H locs hp h
    refine lv_astore_n (lv' := [(2, .ref (a)), (0, .ref (ad 0)), (1, .ref (ad 51))]) hx hb d_Lw_box_11 rfl hl (by decide) rfl (fun ls hl => ?_)
    refine lv_iconst (v := nI (1)) hx hb d_Lw_box_12 (by decide) ?_
    rw [hp] at h
    exact wv_iret hx hb hr hlocks h d_Lw_box_13 ⟨nI 0, Bf, ol, 1, fo, rfl, Or.inr ⟨hc, rfl, rfl, rfl, rfl⟩, hNB, h51, fun q => absurd q (by decide), fun j _ _ => rfl⟩
theorem d_Lw_open_0 : decode c_Lw_open 0 = .ok (.aload_n 1, 1) := by decide +kernel
theorem d_Lw_open_1 : decode c_Lw_open 1 = .ok (.iconst 0, 1) := by decide +kernel
theorem d_Lw_open_2 : decode c_Lw_open 2 = .ok (.aload_n 0, 1) := by decide +kernel
theorem d_Lw_open_3 : decode c_Lw_open 3 = .ok (.invokevirtual 15, 3) := by decide +kernel
theorem d_Lw_open_6 : decode c_Lw_open 6 = .ok (.i2l, 1) := by decide +kernel
theorem d_Lw_open_7 : decode c_Lw_open 7 = .ok (.lastore, 1) := by decide +kernel
theorem d_Lw_open_8 : decode c_Lw_open 8 = .ok (.goto 9, 3) := by decide +kernel
theorem d_Lw_open_11 : decode c_Lw_open 11 = .ok (.astore_n 2, 1) := by decide +kernel
theorem d_Lw_open_12 : decode c_Lw_open 12 = .ok (.iconst 1, 1) := by decide +kernel
theorem d_Lw_open_13 : decode c_Lw_open 13 = .ok (.ireturn, 1) := by decide +kernel
theorem d_Lw_open_14 : decode c_Lw_open 14 = .ok (.astore_n 2, 1) := by decide +kernel
theorem d_Lw_open_15 : decode c_Lw_open 15 = .ok (.iconst 2, 1) := by decide +kernel
theorem d_Lw_open_16 : decode c_Lw_open 16 = .ok (.ireturn, 1) := by decide +kernel
theorem d_Lw_open_17 : decode c_Lw_open 17 = .ok (.iconst 0, 1) := by decide +kernel
theorem d_Lw_open_18 : decode c_Lw_open 18 = .ok (.ireturn, 1) := by decide +kernel
set_option maxRecDepth 100000 in
set_option maxHeartbeats 4000000 in
/-- the law's own open -/
theorem q_Lw_open (l : Launch) (hoff : ∀ e, l.admits e → e.platform.stackTraces = false) (s0 : State) (hTW : TW s0) (hCA : CA s0) (G : wG) (ad : Nat → Nat) (ev : Nat → va_E) (Bf : Nat → Nat → Nat) (tl ol : Nat) (hNB : NB G ad ev Bf tl ol) (fo : Nat → Int64) (h51 : ev 51 = eJ G 1 fo) : Met l y_Lw_open w_Lw_open ({ frames := 33, cells := 1, slots := 6, locals := 1100 }) (wPt s0 G 52 ad ev [.ref (ad 0), .ref (ad 51)]) (wQc G (A0 s0) 52 ad (fun ov ev' => ∃ (ans : Int32) (Bf' : Nat → Nat → Nat) (ol' cd' : Nat) (fo' : Nat → Int64), ov = some (.int (nI cd')) ∧ spOpen (Bf 0) Bf tl ol ans Bf' ol' cd' ∧ NB G ad ev' Bf' tl ol' ∧ ev' 51 = eJ G 1 fo' ∧ (cd' = 0 → fo' 0 = ans.toInt64) ∧ ∀ j, 37 ≤ j → j ≤ 50 → ev' j = ev j)) 1 6 (A0 s0) := by
  refine wv_ofC (cc := c_Lw_open) (maxL := 3) (ret := some .int) (hh := h_Lw_open) (by decide) rfl (Nat.le_of_ble_eq_true rfl) ?_
  intro p e s m below meth c ls hadm hx hb hr hml hts hown hlocks h hl hO htab
  have htr := hoff e hadm
  have hCAs : CA s := hCA.warm hO.1 s rfl
  have hl : lv_has ls 3 [(0, .ref (ad 0)), (1, .ref (ad 51))] := hl
  have hNB0 := hNB
  obtain ⟨g0, -⟩ := hNB0
  by_cases hc : 16 ≤ tl
  · by_cases hok : tagOK (Bf 0) (Bf 1) (Bf 3) (tl - 16)
    · skip
      refine lv_aload_n hx hb d_Lw_open_0 rfl (lv_at hl 1 rfl) ?_
      refine lv_iconst (v := nI (0)) hx hb d_Lw_open_1 (by decide) ?_
      refine lv_aload_n hx hb d_Lw_open_2 rfl (lv_at hl 0 rfl) ?_
      refine wv_V (As := []) (rest := [.int (nI (0)), .ref (ad 51)]) (k := 0) ⟨hx, hb, hml, hown, hts⟩ h 0 (by decide) (C := "NonceBox") g0 rfl (r_NB_open l G (A0 s0) ad ev Bf tl ol hNB hc hok) kc_NB_open kl_Lw_15 km_NB_open kv_NB_open ki_NB (by decide +kernel) ⟨rfl, rfl, Nat.le_of_ble_eq_true rfl, Nat.le_of_ble_eq_true rfl⟩ hl.1 rfl rfl (Nat.le_of_ble_eq_true rfl) ⟨Nat.zero_le _, Nat.zero_le _⟩ d_Lw_open_3 ?_
      intro ov ev9 H locs hp h
      obtain ⟨ho, hN9, hfr⟩ := hp
      rw [ho]
      refine W.eq (g2 := F0 m 6 ls [.int (nI (tl - 16)), .int (nI (0)), .ref (ad 51)]) rfl ?_
      have q51 := (hfr 51 (by decide)).trans h51
      refine lv_i2l (v := (nI (tl - 16)).toInt64) hx hb d_Lw_open_6 rfl ?_
      refine wv_last hx hb h 51 (by decide) (f := fo) q51 (k := 0) rfl (by decide) (by decide) d_Lw_open_7 (fun H locs h => ?_)
      refine lv_goto (tgt := 17) hx hb d_Lw_open_8 (by decide) ?_
      refine lv_iconst (v := nI (0)) hx hb d_Lw_open_17 (by decide) ?_
      refine W.widen (k := 1) (n := 6) (by decide) (by decide) ?_
      refine wv_iret hx hb hr hlocks h d_Lw_open_18 ⟨nI (tl - 16), _, _, 0, _, rfl, Or.inl ⟨hc, hok, rfl, rfl, rfl, rfl⟩, hN9.fr (fun j hj => va_up_ne _ _ (by omega)), va_up_self .., fun _ => va_up_self .., fun j h1 h2 => (va_up_ne _ _ (by omega)).trans (hfr j h1)⟩
    · skip
      refine lv_aload_n hx hb d_Lw_open_0 rfl (lv_at hl 1 rfl) ?_
      refine lv_iconst (v := nI (0)) hx hb d_Lw_open_1 (by decide) ?_
      refine lv_aload_n hx hb d_Lw_open_2 rfl (lv_at hl 0 rfl) ?_
      refine wv_vcatch (rest := [.int (nI (0)), .ref (ad 51)]) (hp := 14) (C := "NonceBox") ⟨hx, hb, hml, hown, hts⟩ htr hO h 0 (by decide) g0 rfl (s_NB_open l s0 hTW G ad ev Bf tl ol hNB hc hok) kc_NB_open kl_Lw_15 km_NB_open kv_NB_open ki_NB (by decide +kernel) ⟨rfl, rfl, Nat.le_of_ble_eq_true rfl, Nat.le_of_ble_eq_true rfl⟩ hl.1 (Nat.le_of_ble_eq_true rfl) ⟨Nat.le_of_ble_eq_true rfl, Nat.le_of_ble_eq_true rfl⟩ d_Lw_open_3 (fun locs cells slots T U a ce f X hU hc hn hcls hf hpc => ft_sta X hown (hts _ (List.mem_cons_of_mem _ kC_Lw_13)) (hts _ (List.mem_cons_of_mem _ kC_Lw_18)) hCAs htab hU hc hn hcls hf hpc) ?_
      intro a ev9 H locs hp h
      refine lv_astore_n (lv' := [(2, .ref (a)), (0, .ref (ad 0)), (1, .ref (ad 51))]) hx hb d_Lw_open_14 rfl hl (by decide) rfl (fun ls hl => ?_)
      refine lv_iconst (v := nI (2)) hx hb d_Lw_open_15 (by decide) ?_
      exact wv_iret hx hb hr hlocks h d_Lw_open_16 ⟨nI 0, Bf, ol, 2, fo, rfl, Or.inr (Or.inl ⟨hc, hok, rfl, rfl, rfl, rfl⟩), hp.1, (hp.2 51 (by decide)).trans h51, fun q => absurd q (by decide), fun j h1 _ => hp.2 j h1⟩
  · skip
    refine lv_aload_n hx hb d_Lw_open_0 rfl (lv_at hl 1 rfl) ?_
    refine lv_iconst (v := nI (0)) hx hb d_Lw_open_1 (by decide) ?_
    refine lv_aload_n hx hb d_Lw_open_2 rfl (lv_at hl 0 rfl) ?_
    refine wv_vcatch (rest := [.int (nI (0)), .ref (ad 51)]) (hp := 11) (C := "NonceBox") ⟨hx, hb, hml, hown, hts⟩ htr hO h 0 (by decide) g0 rfl (t_NB_open l s0 hTW G ad ev Bf tl ol hNB hc) kc_NB_open kl_Lw_15 km_NB_open kv_NB_open ki_NB (by decide +kernel) ⟨rfl, rfl, Nat.le_of_ble_eq_true rfl, Nat.le_of_ble_eq_true rfl⟩ hl.1 (Nat.le_of_ble_eq_true rfl) ⟨Nat.le_of_ble_eq_true rfl, Nat.le_of_ble_eq_true rfl⟩ d_Lw_open_3 (fun locs cells slots T U a ce f X hU hc hn hcls hf hpc => ft_arg X hown (hts _ (List.mem_cons_of_mem _ kC_Lw_13)) hCAs htab hU hc hn hcls hf hpc) ?_
    intro a ev9 H locs hp h
    refine lv_astore_n (lv' := [(2, .ref (a)), (0, .ref (ad 0)), (1, .ref (ad 51))]) hx hb d_Lw_open_11 rfl hl (by decide) rfl (fun ls hl => ?_)
    refine lv_iconst (v := nI (1)) hx hb d_Lw_open_12 (by decide) ?_
    rw [hp] at h
    exact wv_iret hx hb hr hlocks h d_Lw_open_13 ⟨nI 0, Bf, ol, 1, fo, rfl, Or.inr (Or.inr ⟨hc, rfl, rfl, rfl, rfl⟩), hNB, h51, fun q => absurd q (by decide), fun j _ _ => rfl⟩
theorem d_Lw_unbox_0 : decode c_Lw_unbox 0 = .ok (.aload_n 1, 1) := by decide +kernel
theorem d_Lw_unbox_1 : decode c_Lw_unbox 1 = .ok (.iconst 0, 1) := by decide +kernel
theorem d_Lw_unbox_2 : decode c_Lw_unbox 2 = .ok (.aload_n 0, 1) := by decide +kernel
theorem d_Lw_unbox_3 : decode c_Lw_unbox 3 = .ok (.invokevirtual 23, 3) := by decide +kernel
theorem d_Lw_unbox_6 : decode c_Lw_unbox 6 = .ok (.i2l, 1) := by decide +kernel
theorem d_Lw_unbox_7 : decode c_Lw_unbox 7 = .ok (.lastore, 1) := by decide +kernel
theorem d_Lw_unbox_8 : decode c_Lw_unbox 8 = .ok (.goto 9, 3) := by decide +kernel
theorem d_Lw_unbox_11 : decode c_Lw_unbox 11 = .ok (.astore_n 2, 1) := by decide +kernel
theorem d_Lw_unbox_12 : decode c_Lw_unbox 12 = .ok (.iconst 1, 1) := by decide +kernel
theorem d_Lw_unbox_13 : decode c_Lw_unbox 13 = .ok (.ireturn, 1) := by decide +kernel
theorem d_Lw_unbox_14 : decode c_Lw_unbox 14 = .ok (.astore_n 2, 1) := by decide +kernel
theorem d_Lw_unbox_15 : decode c_Lw_unbox 15 = .ok (.iconst 2, 1) := by decide +kernel
theorem d_Lw_unbox_16 : decode c_Lw_unbox 16 = .ok (.ireturn, 1) := by decide +kernel
theorem d_Lw_unbox_17 : decode c_Lw_unbox 17 = .ok (.iconst 0, 1) := by decide +kernel
theorem d_Lw_unbox_18 : decode c_Lw_unbox 18 = .ok (.ireturn, 1) := by decide +kernel
set_option maxRecDepth 100000 in
set_option maxHeartbeats 4000000 in
/-- the law's own unbox -/
theorem q_Lw_unbox (l : Launch) (hoff : ∀ e, l.admits e → e.platform.stackTraces = false) (s0 : State) (hTW : TW s0) (hCA : CA s0) (G : wG) (ad : Nat → Nat) (ev : Nat → va_E) (Bf : Nat → Nat → Nat) (tl ol : Nat) (hNB : NB G ad ev Bf tl ol) (fo : Nat → Int64) (h51 : ev 51 = eJ G 1 fo) : Met l y_Lw_unbox w_Lw_unbox ({ frames := 33, cells := 1, slots := 6, locals := 1100 }) (wPt s0 G 52 ad ev [.ref (ad 0), .ref (ad 51)]) (wQc G (A0 s0) 52 ad (fun ov ev' => ∃ (ans : Int32) (Bf' : Nat → Nat → Nat) (ol' cd' : Nat) (fo' : Nat → Int64), ov = some (.int (nI cd')) ∧ spOpen (AGRB (Bf 0) (Bf 2)) Bf tl ol ans Bf' ol' cd' ∧ NB G ad ev' Bf' tl ol' ∧ ev' 51 = eJ G 1 fo' ∧ (cd' = 0 → fo' 0 = ans.toInt64) ∧ ∀ j, 37 ≤ j → j ≤ 50 → ev' j = ev j)) 1 6 (A0 s0) := by
  refine wv_ofC (cc := c_Lw_unbox) (maxL := 3) (ret := some .int) (hh := h_Lw_unbox) (by decide) rfl (Nat.le_of_ble_eq_true rfl) ?_
  intro p e s m below meth c ls hadm hx hb hr hml hts hown hlocks h hl hO htab
  have htr := hoff e hadm
  have hCAs : CA s := hCA.warm hO.1 s rfl
  have hl : lv_has ls 3 [(0, .ref (ad 0)), (1, .ref (ad 51))] := hl
  have hNB0 := hNB
  obtain ⟨g0, -⟩ := hNB0
  by_cases hc : 16 ≤ tl
  · by_cases hok : tagOK (AGRB (Bf 0) (Bf 2)) (Bf 1) (Bf 3) (tl - 16)
    · skip
      refine lv_aload_n hx hb d_Lw_unbox_0 rfl (lv_at hl 1 rfl) ?_
      refine lv_iconst (v := nI (0)) hx hb d_Lw_unbox_1 (by decide) ?_
      refine lv_aload_n hx hb d_Lw_unbox_2 rfl (lv_at hl 0 rfl) ?_
      refine wv_V (As := []) (rest := [.int (nI (0)), .ref (ad 51)]) (k := 0) ⟨hx, hb, hml, hown, hts⟩ h 0 (by decide) (C := "NonceBox") g0 rfl (r_NB_unbox l G (A0 s0) ad ev Bf tl ol hNB hc hok) kc_NB_unbox kl_Lw_23 km_NB_unbox kv_NB_unbox ki_NB (by decide +kernel) ⟨rfl, rfl, Nat.le_of_ble_eq_true rfl, Nat.le_of_ble_eq_true rfl⟩ hl.1 rfl rfl (Nat.le_of_ble_eq_true rfl) ⟨Nat.zero_le _, Nat.zero_le _⟩ d_Lw_unbox_3 ?_
      intro ov ev9 H locs hp h
      obtain ⟨ho, hN9, hfr⟩ := hp
      rw [ho]
      refine W.eq (g2 := F0 m 6 ls [.int (nI (tl - 16)), .int (nI (0)), .ref (ad 51)]) rfl ?_
      have q51 := (hfr 51 (by decide)).trans h51
      refine lv_i2l (v := (nI (tl - 16)).toInt64) hx hb d_Lw_unbox_6 rfl ?_
      refine wv_last hx hb h 51 (by decide) (f := fo) q51 (k := 0) rfl (by decide) (by decide) d_Lw_unbox_7 (fun H locs h => ?_)
      refine lv_goto (tgt := 17) hx hb d_Lw_unbox_8 (by decide) ?_
      refine lv_iconst (v := nI (0)) hx hb d_Lw_unbox_17 (by decide) ?_
      refine W.widen (k := 1) (n := 6) (by decide) (by decide) ?_
      refine wv_iret hx hb hr hlocks h d_Lw_unbox_18 ⟨nI (tl - 16), _, _, 0, _, rfl, Or.inl ⟨hc, hok, rfl, rfl, rfl, rfl⟩, hN9.fr (fun j hj => va_up_ne _ _ (by omega)), va_up_self .., fun _ => va_up_self .., fun j h1 h2 => (va_up_ne _ _ (by omega)).trans (hfr j h1)⟩
    · skip
      refine lv_aload_n hx hb d_Lw_unbox_0 rfl (lv_at hl 1 rfl) ?_
      refine lv_iconst (v := nI (0)) hx hb d_Lw_unbox_1 (by decide) ?_
      refine lv_aload_n hx hb d_Lw_unbox_2 rfl (lv_at hl 0 rfl) ?_
      refine wv_vcatch (rest := [.int (nI (0)), .ref (ad 51)]) (hp := 14) (C := "NonceBox") ⟨hx, hb, hml, hown, hts⟩ htr hO h 0 (by decide) g0 rfl (s_NB_unbox l s0 hTW G ad ev Bf tl ol hNB hc hok) kc_NB_unbox kl_Lw_23 km_NB_unbox kv_NB_unbox ki_NB (by decide +kernel) ⟨rfl, rfl, Nat.le_of_ble_eq_true rfl, Nat.le_of_ble_eq_true rfl⟩ hl.1 (Nat.le_of_ble_eq_true rfl) ⟨Nat.le_of_ble_eq_true rfl, Nat.le_of_ble_eq_true rfl⟩ d_Lw_unbox_3 (fun locs cells slots T U a ce f X hU hc hn hcls hf hpc => ft_sta X hown (hts _ (List.mem_cons_of_mem _ kC_Lw_13)) (hts _ (List.mem_cons_of_mem _ kC_Lw_18)) hCAs htab hU hc hn hcls hf hpc) ?_
      intro a ev9 H locs hp h
      refine lv_astore_n (lv' := [(2, .ref (a)), (0, .ref (ad 0)), (1, .ref (ad 51))]) hx hb d_Lw_unbox_14 rfl hl (by decide) rfl (fun ls hl => ?_)
      refine lv_iconst (v := nI (2)) hx hb d_Lw_unbox_15 (by decide) ?_
      exact wv_iret hx hb hr hlocks h d_Lw_unbox_16 ⟨nI 0, Bf, ol, 2, fo, rfl, Or.inr (Or.inl ⟨hc, hok, rfl, rfl, rfl, rfl⟩), hp.1, (hp.2 51 (by decide)).trans h51, fun q => absurd q (by decide), fun j h1 _ => hp.2 j h1⟩
  · skip
    refine lv_aload_n hx hb d_Lw_unbox_0 rfl (lv_at hl 1 rfl) ?_
    refine lv_iconst (v := nI (0)) hx hb d_Lw_unbox_1 (by decide) ?_
    refine lv_aload_n hx hb d_Lw_unbox_2 rfl (lv_at hl 0 rfl) ?_
    refine wv_vcatch (rest := [.int (nI (0)), .ref (ad 51)]) (hp := 11) (C := "NonceBox") ⟨hx, hb, hml, hown, hts⟩ htr hO h 0 (by decide) g0 rfl (t_NB_unbox l s0 hTW G ad ev Bf tl ol hNB hc) kc_NB_unbox kl_Lw_23 km_NB_unbox kv_NB_unbox ki_NB (by decide +kernel) ⟨rfl, rfl, Nat.le_of_ble_eq_true rfl, Nat.le_of_ble_eq_true rfl⟩ hl.1 (Nat.le_of_ble_eq_true rfl) ⟨Nat.le_of_ble_eq_true rfl, Nat.le_of_ble_eq_true rfl⟩ d_Lw_unbox_3 (fun locs cells slots T U a ce f X hU hc hn hcls hf hpc => ft_arg X hown (hts _ (List.mem_cons_of_mem _ kC_Lw_13)) hCAs htab hU hc hn hcls hf hpc) ?_
    intro a ev9 H locs hp h
    refine lv_astore_n (lv' := [(2, .ref (a)), (0, .ref (ad 0)), (1, .ref (ad 51))]) hx hb d_Lw_unbox_11 rfl hl (by decide) rfl (fun ls hl => ?_)
    refine lv_iconst (v := nI (1)) hx hb d_Lw_unbox_12 (by decide) ?_
    rw [hp] at h
    exact wv_iret hx hb hr hlocks h d_Lw_unbox_13 ⟨nI 0, Bf, ol, 1, fo, rfl, Or.inr (Or.inr ⟨hc, rfl, rfl, rfl, rfl⟩), hNB, h51, fun q => absurd q (by decide), fun j _ _ => rfl⟩
